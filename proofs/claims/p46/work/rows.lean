section
/-! begun with the skeleton's PART A -/
-- ===== PART A: goes FIRST, ahead of the names: the tables' words, and 'selects' of the private methods out of them =====
/-- a private method of a class that the tables say can be made, by its rows of tables_1 -/
def lw_okq (q : MethodName × Nat) : Prop := (q.1.cls ≠ "java/lang/invoke/MethodHandle" ∧ q.1.cls ≠ "java/lang/invoke/VarHandle") ∧ Cond.instantiable q.1.cls q.2 ∈ tables_1 ∧ Cond.privateMethod q.1 ∈ tables_1 ∧ Cond.instanceMethod q.1 ∈ tables_1
theorem lw_p0 : lw_okq (⟨"java/lang/Throwable", "fillInStackTrace", "(I)Ljava/lang/Throwable;"⟩, 6) := ⟨⟨by decide +kernel, by decide +kernel⟩, List.mem_of_getElem? (i := 248) (by decide +kernel), List.mem_of_getElem? (i := 246) (by decide +kernel), List.mem_of_getElem? (i := 247) (by decide +kernel)⟩
theorem lw_p1 : lw_okq (⟨"Sandglass", "demandScript", "(I)LSandglass$Script;"⟩, 4) := ⟨⟨by decide +kernel, by decide +kernel⟩, List.mem_of_getElem? (i := 27) (by decide +kernel), List.mem_of_getElem? (i := 282) (by decide +kernel), List.mem_of_getElem? (i := 283) (by decide +kernel)⟩
theorem lw_p2 : lw_okq (⟨"Sandglass$World", "obey", "(LSandglass$Proc;LSandglass$Instruction;)V"⟩, 10) := ⟨⟨by decide +kernel, by decide +kernel⟩, List.mem_of_getElem? (i := 61) (by decide +kernel), List.mem_of_getElem? (i := 387) (by decide +kernel), List.mem_of_getElem? (i := 388) (by decide +kernel)⟩
theorem lw_p3 : lw_okq (⟨"Sandglass$World", "drawBelow", "(I)I"⟩, 10) := ⟨⟨by decide +kernel, by decide +kernel⟩, List.mem_of_getElem? (i := 61) (by decide +kernel), List.mem_of_getElem? (i := 391) (by decide +kernel), List.mem_of_getElem? (i := 392) (by decide +kernel)⟩
theorem lw_p4 : lw_okq (⟨"Sandglass$World", "seize", "(LSandglass$Proc;LSandglass$Resource;I)V"⟩, 10) := ⟨⟨by decide +kernel, by decide +kernel⟩, List.mem_of_getElem? (i := 61) (by decide +kernel), List.mem_of_getElem? (i := 399) (by decide +kernel), List.mem_of_getElem? (i := 400) (by decide +kernel)⟩
theorem lw_p5 : lw_okq (⟨"Sandglass$World", "queueUp", "(LSandglass$Proc;LSandglass$Resource;IZ)V"⟩, 10) := ⟨⟨by decide +kernel, by decide +kernel⟩, List.mem_of_getElem? (i := 61) (by decide +kernel), List.mem_of_getElem? (i := 403) (by decide +kernel), List.mem_of_getElem? (i := 404) (by decide +kernel)⟩
theorem lw_p6 : lw_okq (⟨"Sandglass$World", "enter", "(LSandglass$Proc;II)V"⟩, 10) := ⟨⟨by decide +kernel, by decide +kernel⟩, List.mem_of_getElem? (i := 61) (by decide +kernel), List.mem_of_getElem? (i := 407) (by decide +kernel), List.mem_of_getElem? (i := 408) (by decide +kernel)⟩
theorem lw_p7 : lw_okq (⟨"Sandglass$World", "firstIn", "(I)LSandglass$Proc;"⟩, 10) := ⟨⟨by decide +kernel, by decide +kernel⟩, List.mem_of_getElem? (i := 61) (by decide +kernel), List.mem_of_getElem? (i := 411) (by decide +kernel), List.mem_of_getElem? (i := 412) (by decide +kernel)⟩
theorem lw_p8 : lw_okq (⟨"Sandglass$World", "unitsOfVictims", "(LSandglass$Proc;LSandglass$Resource;)I"⟩, 10) := ⟨⟨by decide +kernel, by decide +kernel⟩, List.mem_of_getElem? (i := 61) (by decide +kernel), List.mem_of_getElem? (i := 419) (by decide +kernel), List.mem_of_getElem? (i := 420) (by decide +kernel)⟩
theorem lw_p9 : lw_okq (⟨"Sandglass$World", "unitsToTake", "(LSandglass$Proc;LSandglass$Proc;LSandglass$Resource;)I"⟩, 10) := ⟨⟨by decide +kernel, by decide +kernel⟩, List.mem_of_getElem? (i := 61) (by decide +kernel), List.mem_of_getElem? (i := 423) (by decide +kernel), List.mem_of_getElem? (i := 424) (by decide +kernel)⟩
theorem lw_p10 : lw_okq (⟨"Sandglass$World", "nextVictim", "(LSandglass$Proc;LSandglass$Resource;)LSandglass$Proc;"⟩, 10) := ⟨⟨by decide +kernel, by decide +kernel⟩, List.mem_of_getElem? (i := 61) (by decide +kernel), List.mem_of_getElem? (i := 430) (by decide +kernel), List.mem_of_getElem? (i := 431) (by decide +kernel)⟩
theorem lw_p11 : lw_okq (⟨"Sandglass$World", "throwOut", "(LSandglass$Proc;LSandglass$Resource;)V"⟩, 10) := ⟨⟨by decide +kernel, by decide +kernel⟩, List.mem_of_getElem? (i := 61) (by decide +kernel), List.mem_of_getElem? (i := 439) (by decide +kernel), List.mem_of_getElem? (i := 440) (by decide +kernel)⟩
theorem lw_p12 : lw_okq (⟨"Sandglass$World", "giveUnits", "(LSandglass$Proc;LSandglass$Resource;)V"⟩, 10) := ⟨⟨by decide +kernel, by decide +kernel⟩, List.mem_of_getElem? (i := 61) (by decide +kernel), List.mem_of_getElem? (i := 449) (by decide +kernel), List.mem_of_getElem? (i := 450) (by decide +kernel)⟩
theorem lw_p13 : lw_okq (⟨"Sandglass$World", "serve", "(LSandglass$Resource;)V"⟩, 10) := ⟨⟨by decide +kernel, by decide +kernel⟩, List.mem_of_getElem? (i := 61) (by decide +kernel), List.mem_of_getElem? (i := 453) (by decide +kernel), List.mem_of_getElem? (i := 454) (by decide +kernel)⟩
theorem lw_p14 : lw_okq (⟨"Sandglass$World", "release", "(LSandglass$Proc;LSandglass$Resource;I)V"⟩, 10) := ⟨⟨by decide +kernel, by decide +kernel⟩, List.mem_of_getElem? (i := 61) (by decide +kernel), List.mem_of_getElem? (i := 457) (by decide +kernel), List.mem_of_getElem? (i := 458) (by decide +kernel)⟩
theorem lw_p15 : lw_okq (⟨"Sandglass$World", "exchange", "(LSandglass$Proc;LSandglass$Store;IZ)V"⟩, 10) := ⟨⟨by decide +kernel, by decide +kernel⟩, List.mem_of_getElem? (i := 61) (by decide +kernel), List.mem_of_getElem? (i := 468) (by decide +kernel), List.mem_of_getElem? (i := 469) (by decide +kernel)⟩
def lw_privs_1 : List (MethodName × Nat) := [(⟨"java/lang/Throwable", "fillInStackTrace", "(I)Ljava/lang/Throwable;"⟩, 6), (⟨"Sandglass", "demandScript", "(I)LSandglass$Script;"⟩, 4), (⟨"Sandglass$World", "obey", "(LSandglass$Proc;LSandglass$Instruction;)V"⟩, 10), (⟨"Sandglass$World", "drawBelow", "(I)I"⟩, 10), (⟨"Sandglass$World", "seize", "(LSandglass$Proc;LSandglass$Resource;I)V"⟩, 10), (⟨"Sandglass$World", "queueUp", "(LSandglass$Proc;LSandglass$Resource;IZ)V"⟩, 10), (⟨"Sandglass$World", "enter", "(LSandglass$Proc;II)V"⟩, 10), (⟨"Sandglass$World", "firstIn", "(I)LSandglass$Proc;"⟩, 10), (⟨"Sandglass$World", "unitsOfVictims", "(LSandglass$Proc;LSandglass$Resource;)I"⟩, 10), (⟨"Sandglass$World", "unitsToTake", "(LSandglass$Proc;LSandglass$Proc;LSandglass$Resource;)I"⟩, 10), (⟨"Sandglass$World", "nextVictim", "(LSandglass$Proc;LSandglass$Resource;)LSandglass$Proc;"⟩, 10), (⟨"Sandglass$World", "throwOut", "(LSandglass$Proc;LSandglass$Resource;)V"⟩, 10), (⟨"Sandglass$World", "giveUnits", "(LSandglass$Proc;LSandglass$Resource;)V"⟩, 10), (⟨"Sandglass$World", "serve", "(LSandglass$Resource;)V"⟩, 10), (⟨"Sandglass$World", "release", "(LSandglass$Proc;LSandglass$Resource;I)V"⟩, 10), (⟨"Sandglass$World", "exchange", "(LSandglass$Proc;LSandglass$Store;IZ)V"⟩, 10)]
theorem lw_r1 : ∀ q ∈ lw_privs_1, lw_okq q := List.forall_mem_cons.mpr ⟨lw_p0, List.forall_mem_cons.mpr ⟨lw_p1, List.forall_mem_cons.mpr ⟨lw_p2, List.forall_mem_cons.mpr ⟨lw_p3, List.forall_mem_cons.mpr ⟨lw_p4, List.forall_mem_cons.mpr ⟨lw_p5, List.forall_mem_cons.mpr ⟨lw_p6, List.forall_mem_cons.mpr ⟨lw_p7, List.forall_mem_cons.mpr ⟨lw_p8, List.forall_mem_cons.mpr ⟨lw_p9, List.forall_mem_cons.mpr ⟨lw_p10, List.forall_mem_cons.mpr ⟨lw_p11, List.forall_mem_cons.mpr ⟨lw_p12, List.forall_mem_cons.mpr ⟨lw_p13, List.forall_mem_cons.mpr ⟨lw_p14, List.forall_mem_cons.mpr ⟨lw_p15, fun _ h => absurd h List.not_mem_nil⟩⟩⟩⟩⟩⟩⟩⟩⟩⟩⟩⟩⟩⟩⟩⟩
theorem lw_p16 : lw_okq (⟨"Sandglass$World", "goOnWith", "(LSandglass$Store;)V"⟩, 10) := ⟨⟨by decide +kernel, by decide +kernel⟩, List.mem_of_getElem? (i := 61) (by decide +kernel), List.mem_of_getElem? (i := 481) (by decide +kernel), List.mem_of_getElem? (i := 482) (by decide +kernel)⟩
theorem lw_p17 : lw_okq (⟨"Sandglass$World", "wakeAll", "(I)V"⟩, 10) := ⟨⟨by decide +kernel, by decide +kernel⟩, List.mem_of_getElem? (i := 61) (by decide +kernel), List.mem_of_getElem? (i := 485) (by decide +kernel), List.mem_of_getElem? (i := 486) (by decide +kernel)⟩
theorem lw_p18 : lw_okq (⟨"Sandglass$World", "tell", "(LSandglass$Tally;I)V"⟩, 10) := ⟨⟨by decide +kernel, by decide +kernel⟩, List.mem_of_getElem? (i := 61) (by decide +kernel), List.mem_of_getElem? (i := 496) (by decide +kernel), List.mem_of_getElem? (i := 497) (by decide +kernel)⟩
theorem lw_p19 : lw_okq (⟨"Sandglass$Tally", "keep", "(I)V"⟩, 10) := ⟨⟨by decide +kernel, by decide +kernel⟩, List.mem_of_getElem? (i := 508) (by decide +kernel), List.mem_of_getElem? (i := 506) (by decide +kernel), List.mem_of_getElem? (i := 507) (by decide +kernel)⟩
theorem lw_p20 : lw_okq (⟨"java/util/ArrayList", "add", "(Ljava/lang/Object;[Ljava/lang/Object;I)V"⟩, 3) := ⟨⟨by decide +kernel, by decide +kernel⟩, List.mem_of_getElem? (i := 35) (by decide +kernel), List.mem_of_getElem? (i := 532) (by decide +kernel), List.mem_of_getElem? (i := 533) (by decide +kernel)⟩
theorem lw_p21 : lw_okq (⟨"java/util/ArrayList", "grow", "()[Ljava/lang/Object;"⟩, 3) := ⟨⟨by decide +kernel, by decide +kernel⟩, List.mem_of_getElem? (i := 35) (by decide +kernel), List.mem_of_getElem? (i := 536) (by decide +kernel), List.mem_of_getElem? (i := 537) (by decide +kernel)⟩
theorem lw_p22 : lw_okq (⟨"java/util/ArrayList", "grow", "(I)[Ljava/lang/Object;"⟩, 3) := ⟨⟨by decide +kernel, by decide +kernel⟩, List.mem_of_getElem? (i := 35) (by decide +kernel), List.mem_of_getElem? (i := 540) (by decide +kernel), List.mem_of_getElem? (i := 541) (by decide +kernel)⟩
theorem lw_p23 : lw_okq (⟨"Sandglass$World", "goAgain", "(LSandglass$Proc;LSandglass$Instruction;)V"⟩, 10) := ⟨⟨by decide +kernel, by decide +kernel⟩, List.mem_of_getElem? (i := 61) (by decide +kernel), List.mem_of_getElem? (i := 587) (by decide +kernel), List.mem_of_getElem? (i := 588) (by decide +kernel)⟩
theorem lw_p24 : lw_okq (⟨"Sandglass$World", "skip", "(LSandglass$Proc;LSandglass$Store;I)V"⟩, 10) := ⟨⟨by decide +kernel, by decide +kernel⟩, List.mem_of_getElem? (i := 61) (by decide +kernel), List.mem_of_getElem? (i := 591) (by decide +kernel), List.mem_of_getElem? (i := 592) (by decide +kernel)⟩
theorem lw_p25 : lw_okq (⟨"Sandglass$World", "leave", "(LSandglass$Proc;)V"⟩, 10) := ⟨⟨by decide +kernel, by decide +kernel⟩, List.mem_of_getElem? (i := 61) (by decide +kernel), List.mem_of_getElem? (i := 603) (by decide +kernel), List.mem_of_getElem? (i := 604) (by decide +kernel)⟩
theorem lw_p26 : lw_okq (⟨"Sandglass", "demandProcess", "(I)LSandglass$Proc;"⟩, 4) := ⟨⟨by decide +kernel, by decide +kernel⟩, List.mem_of_getElem? (i := 27) (by decide +kernel), List.mem_of_getElem? (i := 612) (by decide +kernel), List.mem_of_getElem? (i := 613) (by decide +kernel)⟩
theorem lw_p27 : lw_okq (⟨"Sandglass", "demandResource", "(I)LSandglass$Resource;"⟩, 4) := ⟨⟨by decide +kernel, by decide +kernel⟩, List.mem_of_getElem? (i := 27) (by decide +kernel), List.mem_of_getElem? (i := 674) (by decide +kernel), List.mem_of_getElem? (i := 675) (by decide +kernel)⟩
theorem lw_p28 : lw_okq (⟨"Sandglass", "demandTally", "(I)LSandglass$Tally;"⟩, 4) := ⟨⟨by decide +kernel, by decide +kernel⟩, List.mem_of_getElem? (i := 27) (by decide +kernel), List.mem_of_getElem? (i := 689) (by decide +kernel), List.mem_of_getElem? (i := 690) (by decide +kernel)⟩
theorem lw_p29 : lw_okq (⟨"Sandglass", "mixProcesses", "(J)J"⟩, 4) := ⟨⟨by decide +kernel, by decide +kernel⟩, List.mem_of_getElem? (i := 27) (by decide +kernel), List.mem_of_getElem? (i := 786) (by decide +kernel), List.mem_of_getElem? (i := 787) (by decide +kernel)⟩
theorem lw_p30 : lw_okq (⟨"Sandglass", "mixResources", "(J)J"⟩, 4) := ⟨⟨by decide +kernel, by decide +kernel⟩, List.mem_of_getElem? (i := 27) (by decide +kernel), List.mem_of_getElem? (i := 810) (by decide +kernel), List.mem_of_getElem? (i := 811) (by decide +kernel)⟩
theorem lw_p31 : lw_okq (⟨"Sandglass$World", "countBefore", "(LSandglass$Proc;)I"⟩, 10) := ⟨⟨by decide +kernel, by decide +kernel⟩, List.mem_of_getElem? (i := 61) (by decide +kernel), List.mem_of_getElem? (i := 831) (by decide +kernel), List.mem_of_getElem? (i := 832) (by decide +kernel)⟩
def lw_privs_2 : List (MethodName × Nat) := [(⟨"Sandglass$World", "goOnWith", "(LSandglass$Store;)V"⟩, 10), (⟨"Sandglass$World", "wakeAll", "(I)V"⟩, 10), (⟨"Sandglass$World", "tell", "(LSandglass$Tally;I)V"⟩, 10), (⟨"Sandglass$Tally", "keep", "(I)V"⟩, 10), (⟨"java/util/ArrayList", "add", "(Ljava/lang/Object;[Ljava/lang/Object;I)V"⟩, 3), (⟨"java/util/ArrayList", "grow", "()[Ljava/lang/Object;"⟩, 3), (⟨"java/util/ArrayList", "grow", "(I)[Ljava/lang/Object;"⟩, 3), (⟨"Sandglass$World", "goAgain", "(LSandglass$Proc;LSandglass$Instruction;)V"⟩, 10), (⟨"Sandglass$World", "skip", "(LSandglass$Proc;LSandglass$Store;I)V"⟩, 10), (⟨"Sandglass$World", "leave", "(LSandglass$Proc;)V"⟩, 10), (⟨"Sandglass", "demandProcess", "(I)LSandglass$Proc;"⟩, 4), (⟨"Sandglass", "demandResource", "(I)LSandglass$Resource;"⟩, 4), (⟨"Sandglass", "demandTally", "(I)LSandglass$Tally;"⟩, 4), (⟨"Sandglass", "mixProcesses", "(J)J"⟩, 4), (⟨"Sandglass", "mixResources", "(J)J"⟩, 4), (⟨"Sandglass$World", "countBefore", "(LSandglass$Proc;)I"⟩, 10)]
theorem lw_r2 : ∀ q ∈ lw_privs_2, lw_okq q := List.forall_mem_cons.mpr ⟨lw_p16, List.forall_mem_cons.mpr ⟨lw_p17, List.forall_mem_cons.mpr ⟨lw_p18, List.forall_mem_cons.mpr ⟨lw_p19, List.forall_mem_cons.mpr ⟨lw_p20, List.forall_mem_cons.mpr ⟨lw_p21, List.forall_mem_cons.mpr ⟨lw_p22, List.forall_mem_cons.mpr ⟨lw_p23, List.forall_mem_cons.mpr ⟨lw_p24, List.forall_mem_cons.mpr ⟨lw_p25, List.forall_mem_cons.mpr ⟨lw_p26, List.forall_mem_cons.mpr ⟨lw_p27, List.forall_mem_cons.mpr ⟨lw_p28, List.forall_mem_cons.mpr ⟨lw_p29, List.forall_mem_cons.mpr ⟨lw_p30, List.forall_mem_cons.mpr ⟨lw_p31, fun _ h => absurd h List.not_mem_nil⟩⟩⟩⟩⟩⟩⟩⟩⟩⟩⟩⟩⟩⟩⟩⟩
theorem lw_p32 : lw_okq (⟨"Sandglass", "mixStores", "(J)J"⟩, 4) := ⟨⟨by decide +kernel, by decide +kernel⟩, List.mem_of_getElem? (i := 27) (by decide +kernel), List.mem_of_getElem? (i := 845) (by decide +kernel), List.mem_of_getElem? (i := 846) (by decide +kernel)⟩
theorem lw_p33 : lw_okq (⟨"Sandglass", "demandStore", "(I)LSandglass$Store;"⟩, 4) := ⟨⟨by decide +kernel, by decide +kernel⟩, List.mem_of_getElem? (i := 27) (by decide +kernel), List.mem_of_getElem? (i := 853) (by decide +kernel), List.mem_of_getElem? (i := 854) (by decide +kernel)⟩
theorem lw_p34 : lw_okq (⟨"Sandglass", "mixTallies", "(J)J"⟩, 4) := ⟨⟨by decide +kernel, by decide +kernel⟩, List.mem_of_getElem? (i := 27) (by decide +kernel), List.mem_of_getElem? (i := 876) (by decide +kernel), List.mem_of_getElem? (i := 877) (by decide +kernel)⟩
theorem lw_p35 : lw_okq (⟨"Sandglass", "isInstruction", "(III)Z"⟩, 4) := ⟨⟨by decide +kernel, by decide +kernel⟩, List.mem_of_getElem? (i := 27) (by decide +kernel), List.mem_of_getElem? (i := 1063) (by decide +kernel), List.mem_of_getElem? (i := 1064) (by decide +kernel)⟩
def lw_privs_3 : List (MethodName × Nat) := [(⟨"Sandglass", "mixStores", "(J)J"⟩, 4), (⟨"Sandglass", "demandStore", "(I)LSandglass$Store;"⟩, 4), (⟨"Sandglass", "mixTallies", "(J)J"⟩, 4), (⟨"Sandglass", "isInstruction", "(III)Z"⟩, 4)]
theorem lw_r3 : ∀ q ∈ lw_privs_3, lw_okq q := List.forall_mem_cons.mpr ⟨lw_p32, List.forall_mem_cons.mpr ⟨lw_p33, List.forall_mem_cons.mpr ⟨lw_p34, List.forall_mem_cons.mpr ⟨lw_p35, fun _ h => absurd h List.not_mem_nil⟩⟩⟩⟩
def lw_privs : List (MethodName × Nat) := lw_privs_1 ++ (lw_privs_2 ++ (lw_privs_3))
def lw_tbl : List Cond := k2_sels lw_privs ++ tables_1
theorem lw_privs_ok : ∀ q ∈ lw_privs, lw_okq q := by
  show ∀ q ∈ lw_privs_1 ++ (lw_privs_2 ++ (lw_privs_3)), lw_okq q
  exact List.forall_mem_append.mpr ⟨lw_r1, List.forall_mem_append.mpr ⟨lw_r2, lw_r3⟩⟩
/-- the streams that the claim lets the run draw from -/
abbrev lw_cs : List Choice := [Jvm.Choice.named "NaN.bits"]
theorem lw_bits : nanBits ∈ lw_cs := by first | decide | exact List.mem_cons_self | simp [lw_cs, nanBits]
end
section
/-! begun with the printed names of the claim -/
def RX0 : String := "Sandglass$Chunk"
def TX0 : u_T := fun k => match k with
  | _ => ("Sandglass$Chunk", "sums", "[I", true)
def tyX0 : Nat → FieldType := fun k => match k with
  | _ => .array .int
abbrev wsX00 : List Cond := u_ws RX0 TX0 1
theorem nmX0 : ∀ a, a < 1 → ∀ b, b < 1 → a ≠ b → (TX0 a).2.1 ≠ (TX0 b).2.1 := by decide +kernel
theorem tyX0_ok : ∀ k, k < 1 → parseFieldDescriptor (TX0 k).2.2.1 = some (tyX0 k) := by decide +kernel
abbrev cX0_init : ByteArray := prog_2_method_1_code
def yX0_init : MethodName := ⟨RX0, "<init>", "()V"⟩
def RX1 : String := "Sandglass$Instruction"
def TX1 : u_T := fun k => match k with
  | 0 => ("Sandglass$Instruction", "number", "I", true)
  | 1 => ("Sandglass$Instruction", "code", "I", true)
  | 2 => ("Sandglass$Instruction", "a", "I", true)
  | _ => ("Sandglass$Instruction", "b", "I", true)
def tyX1 : Nat → FieldType := fun k => match k with
  | 0 => .int
  | 1 => .int
  | 2 => .int
  | _ => .int
abbrev wsX10 : List Cond := u_ws RX1 TX1 4
theorem nmX1 : ∀ a, a < 4 → ∀ b, b < 4 → a ≠ b → (TX1 a).2.1 ≠ (TX1 b).2.1 := by decide +kernel
theorem tyX1_ok : ∀ k, k < 4 → parseFieldDescriptor (TX1 k).2.2.1 = some (tyX1 k) := by decide +kernel
abbrev cX1_init : ByteArray := prog_3_method_1_code
def yX1_init : MethodName := ⟨RX1, "<init>", "(IIII)V"⟩
def RX2 : String := "Sandglass$Proc"
def TX2 : u_T := fun k => match k with
  | 0 => ("Sandglass$Proc", "number", "I", true)
  | 1 => ("Sandglass$Proc", "script", "LSandglass$Script;", false)
  | 2 => ("Sandglass$Proc", "rank", "I", false)
  | 3 => ("Sandglass$Proc", "place", "I", false)
  | 4 => ("Sandglass$Proc", "mark", "I", false)
  | 5 => ("Sandglass$Proc", "rest", "I", false)
  | 6 => ("Sandglass$Proc", "state", "I", false)
  | 7 => ("Sandglass$Proc", "eventTime", "I", false)
  | 8 => ("Sandglass$Proc", "eventOrder", "I", false)
  | 9 => ("Sandglass$Proc", "row", "I", false)
  | 10 => ("Sandglass$Proc", "urgency", "I", false)
  | 11 => ("Sandglass$Proc", "cameAs", "I", false)
  | 12 => ("Sandglass$Proc", "wants", "I", false)
  | 13 => ("Sandglass$Proc", "isThrownOut", "Z", false)
  | 14 => ("Sandglass$Proc", "counters", "[I", true)
  | 15 => ("Sandglass$Proc", "held", "[I", true)
  | _ => ("Sandglass$Proc", "gotAs", "[I", true)
def tyX2 : Nat → FieldType := fun k => match k with
  | 0 => .int
  | 1 => .object "Sandglass$Script"
  | 2 => .int
  | 3 => .int
  | 4 => .int
  | 5 => .int
  | 6 => .int
  | 7 => .int
  | 8 => .int
  | 9 => .int
  | 10 => .int
  | 11 => .int
  | 12 => .int
  | 13 => .boolean
  | 14 => .array .int
  | 15 => .array .int
  | _ => .array .int
abbrev wsX20 : List Cond := u_ws RX2 TX2 17
theorem nmX2 : ∀ a, a < 17 → ∀ b, b < 17 → a ≠ b → (TX2 a).2.1 ≠ (TX2 b).2.1 := by decide +kernel
theorem tyX2_ok : ∀ k, k < 17 → parseFieldDescriptor (TX2 k).2.2.1 = some (tyX2 k) := by decide +kernel
abbrev cX2_init : ByteArray := prog_4_method_1_code
def yX2_init : MethodName := ⟨RX2, "<init>", "(I)V"⟩
abbrev cX2_copyFrom : ByteArray := prog_4_method_2_code
def yX2_copyFrom : MethodName := ⟨RX2, "copyFrom", "(LSandglass$Proc;)V"⟩
abbrev cX2_isOver : ByteArray := prog_4_method_3_code
def yX2_isOver : MethodName := ⟨RX2, "isOver", "()Z"⟩
abbrev cX2_nextInstruction : ByteArray := prog_4_method_4_code
def yX2_nextInstruction : MethodName := ⟨RX2, "nextInstruction", "()LSandglass$Instruction;"⟩
abbrev cX2_goesBefore : ByteArray := prog_4_method_5_code
def yX2_goesBefore : MethodName := ⟨RX2, "goesBefore", "(LSandglass$Proc;)Z"⟩
abbrev cX2_standsBefore : ByteArray := prog_4_method_6_code
def yX2_standsBefore : MethodName := ⟨RX2, "standsBefore", "(LSandglass$Proc;)Z"⟩
abbrev cX2_yieldsBefore : ByteArray := prog_4_method_7_code
def yX2_yieldsBefore : MethodName := ⟨RX2, "yieldsBefore", "(LSandglass$Proc;I)Z"⟩
abbrev cX2_heldInAll : ByteArray := prog_4_method_8_code
def yX2_heldInAll : MethodName := ⟨RX2, "heldInAll", "()I"⟩
def RX3 : String := "Sandglass$Resource"
def TX3 : u_T := fun k => match k with
  | 0 => ("Sandglass$Resource", "number", "I", true)
  | 1 => ("Sandglass$Resource", "kind", "I", true)
  | 2 => ("Sandglass$Resource", "units", "I", true)
  | 3 => ("Sandglass$Resource", "unheld", "I", false)
  | 4 => ("Sandglass$Resource", "busyTicks", "I", false)
  | 5 => ("Sandglass$Resource", "queueTicks", "I", false)
  | _ => ("Sandglass$Resource", "longestQueue", "I", false)
def tyX3 : Nat → FieldType := fun k => match k with
  | 0 => .int
  | 1 => .int
  | 2 => .int
  | 3 => .int
  | 4 => .int
  | 5 => .int
  | _ => .int
abbrev wsX30 : List Cond := u_ws RX3 TX3 7
theorem nmX3 : ∀ a, a < 7 → ∀ b, b < 7 → a ≠ b → (TX3 a).2.1 ≠ (TX3 b).2.1 := by decide +kernel
theorem tyX3_ok : ∀ k, k < 7 → parseFieldDescriptor (TX3 k).2.2.1 = some (tyX3 k) := by decide +kernel
abbrev cX3_init : ByteArray := prog_5_method_1_code
def yX3_init : MethodName := ⟨RX3, "<init>", "(III)V"⟩
abbrev cX3_copyFrom : ByteArray := prog_5_method_2_code
def yX3_copyFrom : MethodName := ⟨RX3, "copyFrom", "(LSandglass$Resource;)V"⟩
def RX4 : String := "Sandglass$Script"
def TX4 : u_T := fun k => match k with
  | 0 => ("Sandglass$Script", "instructions", "Ljava/util/ArrayList;", true)
  | _ => ("Sandglass$Script", "handler", "I", false)
def tyX4 : Nat → FieldType := fun k => match k with
  | 0 => .object "java/util/ArrayList"
  | _ => .int
abbrev wsX40 : List Cond := u_ws RX4 TX4 2
theorem nmX4 : ∀ a, a < 2 → ∀ b, b < 2 → a ≠ b → (TX4 a).2.1 ≠ (TX4 b).2.1 := by decide +kernel
theorem tyX4_ok : ∀ k, k < 2 → parseFieldDescriptor (TX4 k).2.2.1 = some (tyX4 k) := by decide +kernel
abbrev cX4_init : ByteArray := prog_6_method_1_code
def yX4_init : MethodName := ⟨RX4, "<init>", "()V"⟩
abbrev cX4_instructionAt : ByteArray := prog_6_method_2_code
def yX4_instructionAt : MethodName := ⟨RX4, "instructionAt", "(I)LSandglass$Instruction;"⟩
def RX5 : String := "Sandglass$Store"
def TX5 : u_T := fun k => match k with
  | 0 => ("Sandglass$Store", "number", "I", true)
  | 1 => ("Sandglass$Store", "room", "I", true)
  | 2 => ("Sandglass$Store", "stock", "I", false)
  | _ => ("Sandglass$Store", "stockTicks", "I", false)
def tyX5 : Nat → FieldType := fun k => match k with
  | 0 => .int
  | 1 => .int
  | 2 => .int
  | _ => .int
abbrev wsX50 : List Cond := u_ws RX5 TX5 4
theorem nmX5 : ∀ a, a < 4 → ∀ b, b < 4 → a ≠ b → (TX5 a).2.1 ≠ (TX5 b).2.1 := by decide +kernel
theorem tyX5_ok : ∀ k, k < 4 → parseFieldDescriptor (TX5 k).2.2.1 = some (tyX5 k) := by decide +kernel
abbrev cX5_init : ByteArray := prog_7_method_1_code
def yX5_init : MethodName := ⟨RX5, "<init>", "(III)V"⟩
abbrev cX5_copyFrom : ByteArray := prog_7_method_2_code
def yX5_copyFrom : MethodName := ⟨RX5, "copyFrom", "(LSandglass$Store;)V"⟩
abbrev cX5_row : ByteArray := prog_7_method_3_code
def yX5_row : MethodName := ⟨RX5, "row", "(Z)I"⟩
abbrev cX5_allows : ByteArray := prog_7_method_4_code
def yX5_allows : MethodName := ⟨RX5, "allows", "(I)Z"⟩
def RX6 : String := "Sandglass$Tally"
def TX6 : u_T := fun k => match k with
  | 0 => ("Sandglass$Tally", "batch", "I", true)
  | 1 => ("Sandglass$Tally", "count", "I", false)
  | 2 => ("Sandglass$Tally", "sum", "I", false)
  | 3 => ("Sandglass$Tally", "least", "I", false)
  | 4 => ("Sandglass$Tally", "greatest", "I", false)
  | 5 => ("Sandglass$Tally", "latest", "I", false)
  | 6 => ("Sandglass$Tally", "open", "I", false)
  | 7 => ("Sandglass$Tally", "openSum", "I", false)
  | 8 => ("Sandglass$Tally", "full", "I", false)
  | _ => ("Sandglass$Tally", "chunks", "Ljava/util/ArrayList;", true)
def tyX6 : Nat → FieldType := fun k => match k with
  | 0 => .int
  | 1 => .int
  | 2 => .int
  | 3 => .int
  | 4 => .int
  | 5 => .int
  | 6 => .int
  | 7 => .int
  | 8 => .int
  | _ => .object "java/util/ArrayList"
abbrev wsX60 : List Cond := u_ws RX6 TX6 10
theorem nmX6 : ∀ a, a < 10 → ∀ b, b < 10 → a ≠ b → (TX6 a).2.1 ≠ (TX6 b).2.1 := by decide +kernel
theorem tyX6_ok : ∀ k, k < 10 → parseFieldDescriptor (TX6 k).2.2.1 = some (tyX6 k) := by decide +kernel
abbrev cX6_init : ByteArray := prog_8_method_1_code
def yX6_init : MethodName := ⟨RX6, "<init>", "(I)V"⟩
abbrev cX6_take : ByteArray := prog_8_method_2_code
def yX6_take : MethodName := ⟨RX6, "take", "(I)V"⟩
abbrev cX6_keep : ByteArray := prog_8_method_3_code
def yX6_keep : MethodName := ⟨RX6, "keep", "(I)V"⟩
abbrev cX6_sumAt : ByteArray := prog_8_method_4_code
def yX6_sumAt : MethodName := ⟨RX6, "sumAt", "(I)I"⟩
abbrev cX6_variance : ByteArray := prog_8_method_5_code
def yX6_variance : MethodName := ⟨RX6, "variance", "()D"⟩
abbrev cX6_overBar : ByteArray := prog_8_method_6_code
def yX6_overBar : MethodName := ⟨RX6, "overBar", "(JJJJ)D"⟩
abbrev cX6_lowPart : ByteArray := prog_8_method_7_code
def yX6_lowPart : MethodName := ⟨RX6, "lowPart", "(JI)J"⟩
def RX7 : String := "Sandglass$World"
def TX7 : u_T := fun k => match k with
  | 0 => ("Sandglass$World", "scripts", "Ljava/util/ArrayList;", true)
  | 1 => ("Sandglass$World", "tallies", "Ljava/util/ArrayList;", true)
  | 2 => ("Sandglass$World", "resources", "Ljava/util/ArrayList;", true)
  | 3 => ("Sandglass$World", "stores", "Ljava/util/ArrayList;", true)
  | 4 => ("Sandglass$World", "processes", "[LSandglass$Proc;", true)
  | 5 => ("Sandglass$World", "started", "I", false)
  | 6 => ("Sandglass$World", "time", "I", false)
  | 7 => ("Sandglass$World", "luck", "I", false)
  | 8 => ("Sandglass$World", "done", "I", false)
  | _ => ("Sandglass$World", "order", "I", false)
def tyX7 : Nat → FieldType := fun k => match k with
  | 0 => .object "java/util/ArrayList"
  | 1 => .object "java/util/ArrayList"
  | 2 => .object "java/util/ArrayList"
  | 3 => .object "java/util/ArrayList"
  | 4 => .array (.object "Sandglass$Proc")
  | 5 => .int
  | 6 => .int
  | 7 => .int
  | 8 => .int
  | _ => .int
abbrev wsX70 : List Cond := u_ws RX7 TX7 10
theorem nmX7 : ∀ a, a < 10 → ∀ b, b < 10 → a ≠ b → (TX7 a).2.1 ≠ (TX7 b).2.1 := by decide +kernel
theorem tyX7_ok : ∀ k, k < 10 → parseFieldDescriptor (TX7 k).2.2.1 = some (tyX7 k) := by decide +kernel
abbrev cX7_init : ByteArray := prog_9_method_1_code
def yX7_init : MethodName := ⟨RX7, "<init>", "(Ljava/util/ArrayList;Ljava/util/ArrayList;)V"⟩
abbrev cX7_copyFrom : ByteArray := prog_9_method_2_code
def yX7_copyFrom : MethodName := ⟨RX7, "copyFrom", "(LSandglass$World;)V"⟩
abbrev cX7_resource : ByteArray := prog_9_method_3_code
def yX7_resource : MethodName := ⟨RX7, "resource", "(I)LSandglass$Resource;"⟩
abbrev cX7_store : ByteArray := prog_9_method_4_code
def yX7_store : MethodName := ⟨RX7, "store", "(I)LSandglass$Store;"⟩
abbrev cX7_tally : ByteArray := prog_9_method_5_code
def yX7_tally : MethodName := ⟨RX7, "tally", "(I)LSandglass$Tally;"⟩
abbrev cX7_script : ByteArray := prog_9_method_6_code
def yX7_script : MethodName := ⟨RX7, "script", "(I)LSandglass$Script;"⟩
abbrev cX7_process : ByteArray := prog_9_method_7_code
def yX7_process : MethodName := ⟨RX7, "process", "(I)LSandglass$Proc;"⟩
abbrev cX7_hasStarted : ByteArray := prog_9_method_8_code
def yX7_hasStarted : MethodName := ⟨RX7, "hasStarted", "(LSandglass$Script;)Z"⟩
abbrev cX7_begin : ByteArray := prog_9_method_9_code
def yX7_begin : MethodName := ⟨RX7, "begin", "(LSandglass$Script;II)V"⟩
abbrev cX7_schedule : ByteArray := prog_9_method_10_code
def yX7_schedule : MethodName := ⟨RX7, "schedule", "(LSandglass$Proc;II)V"⟩
abbrev cX7_interruptOne : ByteArray := prog_9_method_11_code
def yX7_interruptOne : MethodName := ⟨RX7, "interruptOne", "(LSandglass$Proc;)V"⟩
abbrev cX7_finish : ByteArray := prog_9_method_12_code
def yX7_finish : MethodName := ⟨RX7, "finish", "(LSandglass$Proc;I)V"⟩
abbrev cX7_countEvents : ByteArray := prog_9_method_13_code
def yX7_countEvents : MethodName := ⟨RX7, "countEvents", "()I"⟩
abbrev cX7_nextToGo : ByteArray := prog_9_method_14_code
def yX7_nextToGo : MethodName := ⟨RX7, "nextToGo", "()LSandglass$Proc;"⟩
abbrev cX7_hasEventBy : ByteArray := prog_9_method_15_code
def yX7_hasEventBy : MethodName := ⟨RX7, "hasEventBy", "(I)Z"⟩
abbrev cX7_goTo : ByteArray := prog_9_method_16_code
def yX7_goTo : MethodName := ⟨RX7, "goTo", "(I)V"⟩
abbrev cX7_runFor : ByteArray := prog_9_method_17_code
def yX7_runFor : MethodName := ⟨RX7, "runFor", "(I)I"⟩
abbrev cX7_runToEndOf : ByteArray := prog_9_method_18_code
def yX7_runToEndOf : MethodName := ⟨RX7, "runToEndOf", "(II)I"⟩
abbrev cX7_happen : ByteArray := prog_9_method_19_code
def yX7_happen : MethodName := ⟨RX7, "happen", "()LSandglass$Proc;"⟩
abbrev cX7_obey : ByteArray := prog_9_method_20_code
def yX7_obey : MethodName := ⟨RX7, "obey", "(LSandglass$Proc;LSandglass$Instruction;)V"⟩
abbrev cX7_drawBelow : ByteArray := prog_9_method_21_code
def yX7_drawBelow : MethodName := ⟨RX7, "drawBelow", "(I)I"⟩
abbrev cX7_wakeAll : ByteArray := prog_9_method_22_code
def yX7_wakeAll : MethodName := ⟨RX7, "wakeAll", "(I)V"⟩
abbrev cX7_tell : ByteArray := prog_9_method_23_code
def yX7_tell : MethodName := ⟨RX7, "tell", "(LSandglass$Tally;I)V"⟩
abbrev cX7_goAgain : ByteArray := prog_9_method_24_code
def yX7_goAgain : MethodName := ⟨RX7, "goAgain", "(LSandglass$Proc;LSandglass$Instruction;)V"⟩
abbrev cX7_skip : ByteArray := prog_9_method_25_code
def yX7_skip : MethodName := ⟨RX7, "skip", "(LSandglass$Proc;LSandglass$Store;I)V"⟩
abbrev cX7_enter : ByteArray := prog_9_method_26_code
def yX7_enter : MethodName := ⟨RX7, "enter", "(LSandglass$Proc;II)V"⟩
abbrev cX7_leave : ByteArray := prog_9_method_27_code
def yX7_leave : MethodName := ⟨RX7, "leave", "(LSandglass$Proc;)V"⟩
abbrev cX7_countIn : ByteArray := prog_9_method_28_code
def yX7_countIn : MethodName := ⟨RX7, "countIn", "(I)I"⟩
abbrev cX7_firstIn : ByteArray := prog_9_method_29_code
def yX7_firstIn : MethodName := ⟨RX7, "firstIn", "(I)LSandglass$Proc;"⟩
abbrev cX7_inRowAt : ByteArray := prog_9_method_30_code
def yX7_inRowAt : MethodName := ⟨RX7, "inRowAt", "(II)LSandglass$Proc;"⟩
abbrev cX7_countBefore : ByteArray := prog_9_method_31_code
def yX7_countBefore : MethodName := ⟨RX7, "countBefore", "(LSandglass$Proc;)I"⟩
abbrev cX7_seize : ByteArray := prog_9_method_32_code
def yX7_seize : MethodName := ⟨RX7, "seize", "(LSandglass$Proc;LSandglass$Resource;I)V"⟩
abbrev cX7_queueUp : ByteArray := prog_9_method_33_code
def yX7_queueUp : MethodName := ⟨RX7, "queueUp", "(LSandglass$Proc;LSandglass$Resource;IZ)V"⟩
abbrev cX7_giveUnits : ByteArray := prog_9_method_34_code
def yX7_giveUnits : MethodName := ⟨RX7, "giveUnits", "(LSandglass$Proc;LSandglass$Resource;)V"⟩
abbrev cX7_unitsToTake : ByteArray := prog_9_method_35_code
def yX7_unitsToTake : MethodName := ⟨RX7, "unitsToTake", "(LSandglass$Proc;LSandglass$Proc;LSandglass$Resource;)I"⟩
abbrev cX7_unitsOfVictims : ByteArray := prog_9_method_36_code
def yX7_unitsOfVictims : MethodName := ⟨RX7, "unitsOfVictims", "(LSandglass$Proc;LSandglass$Resource;)I"⟩
abbrev cX7_nextVictim : ByteArray := prog_9_method_37_code
def yX7_nextVictim : MethodName := ⟨RX7, "nextVictim", "(LSandglass$Proc;LSandglass$Resource;)LSandglass$Proc;"⟩
abbrev cX7_throwOut : ByteArray := prog_9_method_38_code
def yX7_throwOut : MethodName := ⟨RX7, "throwOut", "(LSandglass$Proc;LSandglass$Resource;)V"⟩
abbrev cX7_release : ByteArray := prog_9_method_39_code
def yX7_release : MethodName := ⟨RX7, "release", "(LSandglass$Proc;LSandglass$Resource;I)V"⟩
abbrev cX7_serve : ByteArray := prog_9_method_40_code
def yX7_serve : MethodName := ⟨RX7, "serve", "(LSandglass$Resource;)V"⟩
abbrev cX7_exchange : ByteArray := prog_9_method_41_code
def yX7_exchange : MethodName := ⟨RX7, "exchange", "(LSandglass$Proc;LSandglass$Store;IZ)V"⟩
abbrev cX7_goOnWith : ByteArray := prog_9_method_42_code
def yX7_goOnWith : MethodName := ⟨RX7, "goOnWith", "(LSandglass$Store;)V"⟩
def RX8 : String := "Sandglass"
def TX8 : u_T := fun k => match k with
  | 0 => ("Sandglass", "scripts", "Ljava/util/ArrayList;", true)
  | 1 => ("Sandglass", "tallies", "Ljava/util/ArrayList;", true)
  | 2 => ("Sandglass", "world", "LSandglass$World;", true)
  | _ => ("Sandglass", "trial", "LSandglass$World;", true)
def tyX8 : Nat → FieldType := fun k => match k with
  | 0 => .object "java/util/ArrayList"
  | 1 => .object "java/util/ArrayList"
  | 2 => .object "Sandglass$World"
  | _ => .object "Sandglass$World"
abbrev wsX80 : List Cond := u_ws RX8 TX8 4
theorem nmX8 : ∀ a, a < 4 → ∀ b, b < 4 → a ≠ b → (TX8 a).2.1 ≠ (TX8 b).2.1 := by decide +kernel
theorem tyX8_ok : ∀ k, k < 4 → parseFieldDescriptor (TX8 k).2.2.1 = some (tyX8 k) := by decide +kernel
abbrev cX8_init : ByteArray := prog_1_method_1_code
def yX8_init : MethodName := ⟨RX8, "<init>", "()V"⟩
abbrev cX8_addResource : ByteArray := prog_1_method_2_code
def yX8_addResource : MethodName := ⟨RX8, "addResource", "(II)I"⟩
abbrev cX8_addStore : ByteArray := prog_1_method_3_code
def yX8_addStore : MethodName := ⟨RX8, "addStore", "(II)I"⟩
abbrev cX8_addTally : ByteArray := prog_1_method_4_code
def yX8_addTally : MethodName := ⟨RX8, "addTally", "(I)I"⟩
abbrev cX8_addScript : ByteArray := prog_1_method_5_code
def yX8_addScript : MethodName := ⟨RX8, "addScript", "()I"⟩
abbrev cX8_add : ByteArray := prog_1_method_6_code
def yX8_add : MethodName := ⟨RX8, "add", "(IIII)I"⟩
abbrev cX8_setHandler : ByteArray := prog_1_method_7_code
def yX8_setHandler : MethodName := ⟨RX8, "setHandler", "(II)I"⟩
abbrev cX8_setLuck : ByteArray := prog_1_method_8_code
def yX8_setLuck : MethodName := ⟨RX8, "setLuck", "(I)I"⟩
abbrev cX8_start : ByteArray := prog_1_method_9_code
def yX8_start : MethodName := ⟨RX8, "start", "(III)I"⟩
abbrev cX8_step : ByteArray := prog_1_method_10_code
def yX8_step : MethodName := ⟨RX8, "step", "()I"⟩
abbrev cX8_interrupt : ByteArray := prog_1_method_12_code
def yX8_interrupt : MethodName := ⟨RX8, "interrupt", "(I)I"⟩
abbrev cX8_cancel : ByteArray := prog_1_method_13_code
def yX8_cancel : MethodName := ⟨RX8, "cancel", "(I)I"⟩
abbrev cX8_time : ByteArray := prog_1_method_14_code
def yX8_time : MethodName := ⟨RX8, "time", "()I"⟩
abbrev cX8_luck : ByteArray := prog_1_method_15_code
def yX8_luck : MethodName := ⟨RX8, "luck", "()I"⟩
abbrev cX8_events : ByteArray := prog_1_method_16_code
def yX8_events : MethodName := ⟨RX8, "events", "()I"⟩
abbrev cX8_nextTime : ByteArray := prog_1_method_17_code
def yX8_nextTime : MethodName := ⟨RX8, "nextTime", "()I"⟩
abbrev cX8_processes : ByteArray := prog_1_method_18_code
def yX8_processes : MethodName := ⟨RX8, "processes", "()I"⟩
abbrev cX8_done : ByteArray := prog_1_method_19_code
def yX8_done : MethodName := ⟨RX8, "done", "()I"⟩
abbrev cX8_stateOf : ByteArray := prog_1_method_20_code
def yX8_stateOf : MethodName := ⟨RX8, "stateOf", "(I)I"⟩
abbrev cX8_placeOf : ByteArray := prog_1_method_21_code
def yX8_placeOf : MethodName := ⟨RX8, "placeOf", "(I)I"⟩
abbrev cX8_rankOf : ByteArray := prog_1_method_22_code
def yX8_rankOf : MethodName := ⟨RX8, "rankOf", "(I)I"⟩
abbrev cX8_restOf : ByteArray := prog_1_method_23_code
def yX8_restOf : MethodName := ⟨RX8, "restOf", "(I)I"⟩
abbrev cX8_markOf : ByteArray := prog_1_method_24_code
def yX8_markOf : MethodName := ⟨RX8, "markOf", "(I)I"⟩
abbrev cX8_eventOf : ByteArray := prog_1_method_25_code
def yX8_eventOf : MethodName := ⟨RX8, "eventOf", "(I)I"⟩
abbrev cX8_holds : ByteArray := prog_1_method_26_code
def yX8_holds : MethodName := ⟨RX8, "holds", "(II)I"⟩
abbrev cX8_free : ByteArray := prog_1_method_27_code
def yX8_free : MethodName := ⟨RX8, "free", "(I)I"⟩
abbrev cX8_queued : ByteArray := prog_1_method_28_code
def yX8_queued : MethodName := ⟨RX8, "queued", "(I)I"⟩
abbrev cX8_queuedAt : ByteArray := prog_1_method_29_code
def yX8_queuedAt : MethodName := ⟨RX8, "queuedAt", "(II)I"⟩
abbrev cX8_busy : ByteArray := prog_1_method_30_code
def yX8_busy : MethodName := ⟨RX8, "busy", "(I)I"⟩
abbrev cX8_queueing : ByteArray := prog_1_method_31_code
def yX8_queueing : MethodName := ⟨RX8, "queueing", "(I)I"⟩
abbrev cX8_longest : ByteArray := prog_1_method_32_code
def yX8_longest : MethodName := ⟨RX8, "longest", "(I)I"⟩
abbrev cX8_level : ByteArray := prog_1_method_33_code
def yX8_level : MethodName := ⟨RX8, "level", "(I)I"⟩
abbrev cX8_blocked : ByteArray := prog_1_method_34_code
def yX8_blocked : MethodName := ⟨RX8, "blocked", "(IZ)I"⟩
abbrev cX8_area : ByteArray := prog_1_method_35_code
def yX8_area : MethodName := ⟨RX8, "area", "(I)I"⟩
abbrev cX8_awaiting : ByteArray := prog_1_method_36_code
def yX8_awaiting : MethodName := ⟨RX8, "awaiting", "(I)I"⟩
abbrev cX8_tallied : ByteArray := prog_1_method_37_code
def yX8_tallied : MethodName := ⟨RX8, "tallied", "(I)I"⟩
abbrev cX8_ofTally : ByteArray := prog_1_method_38_code
def yX8_ofTally : MethodName := ⟨RX8, "ofTally", "(II)I"⟩
abbrev cX8_batches : ByteArray := prog_1_method_39_code
def yX8_batches : MethodName := ⟨RX8, "batches", "(I)I"⟩
abbrev cX8_sumOf : ByteArray := prog_1_method_40_code
def yX8_sumOf : MethodName := ⟨RX8, "sumOf", "(II)I"⟩
abbrev cX8_spread : ByteArray := prog_1_method_41_code
def yX8_spread : MethodName := ⟨RX8, "spread", "(I)D"⟩
abbrev cX8_endOf : ByteArray := prog_1_method_42_code
def yX8_endOf : MethodName := ⟨RX8, "endOf", "(II)I"⟩
abbrev cX8_wouldBeBusy : ByteArray := prog_1_method_43_code
def yX8_wouldBeBusy : MethodName := ⟨RX8, "wouldBeBusy", "(II)I"⟩
abbrev cX8_digest : ByteArray := prog_1_method_44_code
def yX8_digest : MethodName := ⟨RX8, "digest", "()J"⟩
abbrev cX8_mix : ByteArray := prog_1_method_45_code
def yX8_mix : MethodName := ⟨RX8, "mix", "(JI)J"⟩
abbrev cX8_mixProcesses : ByteArray := prog_1_method_46_code
def yX8_mixProcesses : MethodName := ⟨RX8, "mixProcesses", "(J)J"⟩
abbrev cX8_mixResources : ByteArray := prog_1_method_47_code
def yX8_mixResources : MethodName := ⟨RX8, "mixResources", "(J)J"⟩
abbrev cX8_mixStores : ByteArray := prog_1_method_48_code
def yX8_mixStores : MethodName := ⟨RX8, "mixStores", "(J)J"⟩
abbrev cX8_mixTallies : ByteArray := prog_1_method_49_code
def yX8_mixTallies : MethodName := ⟨RX8, "mixTallies", "(J)J"⟩
abbrev cX8_isIn : ByteArray := prog_1_method_50_code
def yX8_isIn : MethodName := ⟨RX8, "isIn", "(III)Z"⟩
abbrev cX8_isSignal : ByteArray := prog_1_method_51_code
def yX8_isSignal : MethodName := ⟨RX8, "isSignal", "(I)Z"⟩
abbrev cX8_isInstruction : ByteArray := prog_1_method_52_code
def yX8_isInstruction : MethodName := ⟨RX8, "isInstruction", "(III)Z"⟩
abbrev cX8_demandResource : ByteArray := prog_1_method_53_code
def yX8_demandResource : MethodName := ⟨RX8, "demandResource", "(I)LSandglass$Resource;"⟩
abbrev cX8_demandStore : ByteArray := prog_1_method_54_code
def yX8_demandStore : MethodName := ⟨RX8, "demandStore", "(I)LSandglass$Store;"⟩
abbrev cX8_demandTally : ByteArray := prog_1_method_55_code
def yX8_demandTally : MethodName := ⟨RX8, "demandTally", "(I)LSandglass$Tally;"⟩
abbrev cX8_demandScript : ByteArray := prog_1_method_56_code
def yX8_demandScript : MethodName := ⟨RX8, "demandScript", "(I)LSandglass$Script;"⟩
abbrev cX8_demandProcess : ByteArray := prog_1_method_57_code
def yX8_demandProcess : MethodName := ⟨RX8, "demandProcess", "(I)LSandglass$Proc;"⟩
abbrev cX8_at : ByteArray := prog_1_method_58_code
def yX8_at : MethodName := ⟨RX8, "at", "([II)I"⟩
abbrev cX8_set : ByteArray := prog_1_method_59_code
def yX8_set : MethodName := ⟨RX8, "set", "([III)V"⟩
abbrev cX8_copyRow : ByteArray := prog_1_method_60_code
def yX8_copyRow : MethodName := ⟨RX8, "copyRow", "([I[I)V"⟩
def RX9 : String := "SandglassLaw$Sim"
def TX9 : u_T := fun k => match k with
  | 0 => ("SandglassLaw$Sim", "script", "[[[I", true)
  | 1 => ("SandglassLaw$Sim", "handler", "[I", true)
  | 2 => ("SandglassLaw$Sim", "kind", "[I", true)
  | 3 => ("SandglassLaw$Sim", "units", "[I", true)
  | 4 => ("SandglassLaw$Sim", "free", "[I", true)
  | 5 => ("SandglassLaw$Sim", "room", "[I", true)
  | 6 => ("SandglassLaw$Sim", "level", "[I", true)
  | 7 => ("SandglassLaw$Sim", "time", "I", false)
  | 8 => ("SandglassLaw$Sim", "made", "I", false)
  | 9 => ("SandglassLaw$Sim", "luck", "I", false)
  | 10 => ("SandglassLaw$Sim", "done", "I", false)
  | 11 => ("SandglassLaw$Sim", "many", "I", false)
  | 12 => ("SandglassLaw$Sim", "of", "[I", true)
  | 13 => ("SandglassLaw$Sim", "rank", "[I", true)
  | 14 => ("SandglassLaw$Sim", "place", "[I", true)
  | 15 => ("SandglassLaw$Sim", "mark", "[I", true)
  | 16 => ("SandglassLaw$Sim", "rest", "[I", true)
  | 17 => ("SandglassLaw$Sim", "state", "[I", true)
  | 18 => ("SandglassLaw$Sim", "when", "[I", true)
  | 19 => ("SandglassLaw$Sim", "order", "[I", true)
  | 20 => ("SandglassLaw$Sim", "wants", "[I", true)
  | 21 => ("SandglassLaw$Sim", "where", "[I", true)
  | 22 => ("SandglassLaw$Sim", "isOut", "[Z", true)
  | 23 => ("SandglassLaw$Sim", "count", "[[I", true)
  | 24 => ("SandglassLaw$Sim", "has", "[[I", true)
  | 25 => ("SandglassLaw$Sim", "got", "[[I", true)
  | 26 => ("SandglassLaw$Sim", "row", "[[I", true)
  | 27 => ("SandglassLaw$Sim", "long0", "[I", true)
  | 28 => ("SandglassLaw$Sim", "rankIn", "[I", true)
  | 29 => ("SandglassLaw$Sim", "busy", "[I", true)
  | 30 => ("SandglassLaw$Sim", "waited", "[I", true)
  | 31 => ("SandglassLaw$Sim", "longest", "[I", true)
  | 32 => ("SandglassLaw$Sim", "area", "[I", true)
  | 33 => ("SandglassLaw$Sim", "tallied", "[[I", true)
  | _ => ("SandglassLaw$Sim", "tallies", "[I", true)
def tyX9 : Nat → FieldType := fun k => match k with
  | 0 => .array (.array (.array .int))
  | 1 => .array .int
  | 2 => .array .int
  | 3 => .array .int
  | 4 => .array .int
  | 5 => .array .int
  | 6 => .array .int
  | 7 => .int
  | 8 => .int
  | 9 => .int
  | 10 => .int
  | 11 => .int
  | 12 => .array .int
  | 13 => .array .int
  | 14 => .array .int
  | 15 => .array .int
  | 16 => .array .int
  | 17 => .array .int
  | 18 => .array .int
  | 19 => .array .int
  | 20 => .array .int
  | 21 => .array .int
  | 22 => .array .boolean
  | 23 => .array (.array .int)
  | 24 => .array (.array .int)
  | 25 => .array (.array .int)
  | 26 => .array (.array .int)
  | 27 => .array .int
  | 28 => .array .int
  | 29 => .array .int
  | 30 => .array .int
  | 31 => .array .int
  | 32 => .array .int
  | 33 => .array (.array .int)
  | _ => .array .int
abbrev wsX90 : List Cond := u_ws RX9 TX9 35
theorem nmX9 : ∀ a, a < 35 → ∀ b, b < 35 → a ≠ b → (TX9 a).2.1 ≠ (TX9 b).2.1 := by decide +kernel
theorem tyX9_ok : ∀ k, k < 35 → parseFieldDescriptor (TX9 k).2.2.1 = some (tyX9 k) := by decide +kernel
abbrev cX9_init : ByteArray := prog_11_method_1_code
def yX9_init : MethodName := ⟨RX9, "<init>", "([[[I[I[I[I[I[I)V"⟩
def RX10 : String := "SandglassModel$Process"
def TX10 : u_T := fun k => match k with
  | _ => ("", "", "", false)
def tyX10 : Nat → FieldType := fun k => match k with
  | _ => .int
abbrev wsX100 : List Cond := u_ws RX10 TX10 0
theorem nmX10 : ∀ a, a < 0 → ∀ b, b < 0 → a ≠ b → (TX10 a).2.1 ≠ (TX10 b).2.1 := by decide +kernel
theorem tyX10_ok : ∀ k, k < 0 → parseFieldDescriptor (TX10 k).2.2.1 = some (tyX10 k) := by decide +kernel
def RX11 : String := "SandglassModel$Script"
def TX11 : u_T := fun k => match k with
  | _ => ("", "", "", false)
def tyX11 : Nat → FieldType := fun k => match k with
  | _ => .int
abbrev wsX110 : List Cond := u_ws RX11 TX11 0
theorem nmX11 : ∀ a, a < 0 → ∀ b, b < 0 → a ≠ b → (TX11 a).2.1 ≠ (TX11 b).2.1 := by decide +kernel
theorem tyX11_ok : ∀ k, k < 0 → parseFieldDescriptor (TX11 k).2.2.1 = some (tyX11 k) := by decide +kernel
def RX12 : String := "SandglassModel$Tally"
def TX12 : u_T := fun k => match k with
  | _ => ("", "", "", false)
def tyX12 : Nat → FieldType := fun k => match k with
  | _ => .int
abbrev wsX120 : List Cond := u_ws RX12 TX12 0
theorem nmX12 : ∀ a, a < 0 → ∀ b, b < 0 → a ≠ b → (TX12 a).2.1 ≠ (TX12 b).2.1 := by decide +kernel
theorem tyX12_ok : ∀ k, k < 0 → parseFieldDescriptor (TX12 k).2.2.1 = some (tyX12 k) := by decide +kernel
def RX13 : String := "SandglassModel$World"
def TX13 : u_T := fun k => match k with
  | _ => ("", "", "", false)
def tyX13 : Nat → FieldType := fun k => match k with
  | _ => .int
abbrev wsX130 : List Cond := u_ws RX13 TX13 0
theorem nmX13 : ∀ a, a < 0 → ∀ b, b < 0 → a ≠ b → (TX13 a).2.1 ≠ (TX13 b).2.1 := by decide +kernel
theorem tyX13_ok : ∀ k, k < 0 → parseFieldDescriptor (TX13 k).2.2.1 = some (tyX13 k) := by decide +kernel
def RX14 : String := "SandglassModel"
def TX14 : u_T := fun k => match k with
  | _ => ("", "", "", false)
def tyX14 : Nat → FieldType := fun k => match k with
  | _ => .int
abbrev wsX140 : List Cond := u_ws RX14 TX14 0
theorem nmX14 : ∀ a, a < 0 → ∀ b, b < 0 → a ≠ b → (TX14 a).2.1 ≠ (TX14 b).2.1 := by decide +kernel
theorem tyX14_ok : ∀ k, k < 0 → parseFieldDescriptor (TX14 k).2.2.1 = some (tyX14 k) := by decide +kernel
def RJx145de : String := "java/io/Serializable"
def TJx145de : u_T := fun k => match k with
  | _ => ("", "", "", false)
def tyJx145de : Nat → FieldType := fun k => match k with
  | _ => .int
abbrev wsJx145de0 : List Cond := u_ws RJx145de TJx145de 0
theorem nmJx145de : ∀ a, a < 0 → ∀ b, b < 0 → a ≠ b → (TJx145de a).2.1 ≠ (TJx145de b).2.1 := by decide +kernel
theorem tyJx145de_ok : ∀ k, k < 0 → parseFieldDescriptor (TJx145de k).2.2.1 = some (tyJx145de k) := by decide +kernel
def RJx8e188 : String := "java/lang/Cloneable"
def TJx8e188 : u_T := fun k => match k with
  | _ => ("", "", "", false)
def tyJx8e188 : Nat → FieldType := fun k => match k with
  | _ => .int
abbrev wsJx8e1880 : List Cond := u_ws RJx8e188 TJx8e188 0
theorem nmJx8e188 : ∀ a, a < 0 → ∀ b, b < 0 → a ≠ b → (TJx8e188 a).2.1 ≠ (TJx8e188 b).2.1 := by decide +kernel
theorem tyJx8e188_ok : ∀ k, k < 0 → parseFieldDescriptor (TJx8e188 k).2.2.1 = some (tyJx8e188 k) := by decide +kernel
def RJxab1ab : String := "java/lang/Iterable"
def TJxab1ab : u_T := fun k => match k with
  | _ => ("", "", "", false)
def tyJxab1ab : Nat → FieldType := fun k => match k with
  | _ => .int
abbrev wsJxab1ab0 : List Cond := u_ws RJxab1ab TJxab1ab 0
theorem nmJxab1ab : ∀ a, a < 0 → ∀ b, b < 0 → a ≠ b → (TJxab1ab a).2.1 ≠ (TJxab1ab b).2.1 := by decide +kernel
theorem tyJxab1ab_ok : ∀ k, k < 0 → parseFieldDescriptor (TJxab1ab k).2.2.1 = some (tyJxab1ab k) := by decide +kernel
def RJ9 : String := "java/lang/Math"
def TJ9 : u_T := fun k => match k with
  | _ => ("", "", "", false)
def tyJ9 : Nat → FieldType := fun k => match k with
  | _ => .int
abbrev wsJ90 : List Cond := u_ws RJ9 TJ9 0
theorem nmJ9 : ∀ a, a < 0 → ∀ b, b < 0 → a ≠ b → (TJ9 a).2.1 ≠ (TJ9 b).2.1 := by decide +kernel
theorem tyJ9_ok : ∀ k, k < 0 → parseFieldDescriptor (TJ9 k).2.2.1 = some (tyJ9 k) := by decide +kernel
abbrev cJ9_max_7cf53 : ByteArray := prog_24_method_65_code
def yJ9_max_7cf53 : MethodName := ⟨RJ9, "max", "(II)I"⟩
abbrev cJ9_min_7cf53 : ByteArray := prog_24_method_69_code
def yJ9_min_7cf53 : MethodName := ⟨RJ9, "min", "(II)I"⟩
def RJ0 : String := "java/lang/String"
def TJ0 : u_T := fun k => match k with
  | _ => ("", "", "", false)
def tyJ0 : Nat → FieldType := fun k => match k with
  | _ => .int
abbrev wsJ00 : List Cond := u_ws RJ0 TJ0 0
theorem nmJ0 : ∀ a, a < 0 → ∀ b, b < 0 → a ≠ b → (TJ0 a).2.1 ≠ (TJ0 b).2.1 := by decide +kernel
theorem tyJ0_ok : ∀ k, k < 0 → parseFieldDescriptor (TJ0 k).2.2.1 = some (tyJ0 k) := by decide +kernel
def RJ10 : String := "java/lang/System"
def TJ10 : u_T := fun k => match k with
  | _ => ("", "", "", false)
def tyJ10 : Nat → FieldType := fun k => match k with
  | _ => .int
abbrev wsJ100 : List Cond := u_ws RJ10 TJ10 0
theorem nmJ10 : ∀ a, a < 0 → ∀ b, b < 0 → a ≠ b → (TJ10 a).2.1 ≠ (TJ10 b).2.1 := by decide +kernel
theorem tyJ10_ok : ∀ k, k < 0 → parseFieldDescriptor (TJ10 k).2.2.1 = some (tyJ10 k) := by decide +kernel
def RJxa1e45 : String := "java/util/AbstractCollection"
def TJxa1e45 : u_T := fun k => match k with
  | _ => ("", "", "", false)
def tyJxa1e45 : Nat → FieldType := fun k => match k with
  | _ => .int
abbrev wsJxa1e450 : List Cond := u_ws RJxa1e45 TJxa1e45 0
theorem nmJxa1e45 : ∀ a, a < 0 → ∀ b, b < 0 → a ≠ b → (TJxa1e45 a).2.1 ≠ (TJxa1e45 b).2.1 := by decide +kernel
theorem tyJxa1e45_ok : ∀ k, k < 0 → parseFieldDescriptor (TJxa1e45 k).2.2.1 = some (tyJxa1e45 k) := by decide +kernel
abbrev cJxa1e45_init_da8c8 : ByteArray := prog_29_method_1_code
def yJxa1e45_init_da8c8 : MethodName := ⟨RJxa1e45, "<init>", "()V"⟩
def RJxc12de : String := "java/util/AbstractList"
def TJxc12de : u_T := fun k => match k with
  | _ => ("", "", "", false)
def tyJxc12de : Nat → FieldType := fun k => match k with
  | _ => .int
abbrev wsJxc12de0 : List Cond := u_ws RJxc12de TJxc12de 0
theorem nmJxc12de : ∀ a, a < 0 → ∀ b, b < 0 → a ≠ b → (TJxc12de a).2.1 ≠ (TJxc12de b).2.1 := by decide +kernel
theorem tyJxc12de_ok : ∀ k, k < 0 → parseFieldDescriptor (TJxc12de k).2.2.1 = some (tyJxc12de k) := by decide +kernel
abbrev cJxc12de_init_da8c8 : ByteArray := prog_30_method_1_code
def yJxc12de_init_da8c8 : MethodName := ⟨RJxc12de, "<init>", "()V"⟩
def RJx4a65c : String := "java/util/ArrayList"
def TJx4a65c : u_T := fun k => match k with
  | 0 => ("java/util/AbstractList", "modCount", "I", false)
  | 1 => ("java/util/ArrayList", "elementData", "[Ljava/lang/Object;", false)
  | _ => ("java/util/ArrayList", "size", "I", false)
def tyJx4a65c : Nat → FieldType := fun k => match k with
  | 0 => .int
  | 1 => .array (.object "java/lang/Object")
  | _ => .int
abbrev wsJx4a65c0 : List Cond := u_ws RJx4a65c TJx4a65c 3
theorem nmJx4a65c : ∀ a, a < 3 → ∀ b, b < 3 → a ≠ b → (TJx4a65c a).2.1 ≠ (TJx4a65c b).2.1 := by decide +kernel
theorem tyJx4a65c_ok : ∀ k, k < 3 → parseFieldDescriptor (TJx4a65c k).2.2.1 = some (tyJx4a65c k) := by decide +kernel
abbrev cJx4a65c_init_da8c8 : ByteArray := prog_31_method_2_code
def yJx4a65c_init_da8c8 : MethodName := ⟨RJx4a65c, "<init>", "()V"⟩
abbrev cJx4a65c_grow_92f84 : ByteArray := prog_31_method_6_code
def yJx4a65c_grow_92f84 : MethodName := ⟨RJx4a65c, "grow", "(I)[Ljava/lang/Object;"⟩
abbrev cJx4a65c_grow_d5877 : ByteArray := prog_31_method_7_code
def yJx4a65c_grow_d5877 : MethodName := ⟨RJx4a65c, "grow", "()[Ljava/lang/Object;"⟩
abbrev cJx4a65c_size_8abf5 : ByteArray := prog_31_method_8_code
def yJx4a65c_size_8abf5 : MethodName := ⟨RJx4a65c, "size", "()I"⟩
abbrev cJx4a65c_isEmpty_aae02 : ByteArray := prog_31_method_9_code
def yJx4a65c_isEmpty_aae02 : MethodName := ⟨RJx4a65c, "isEmpty", "()Z"⟩
abbrev cJx4a65c_elementData_915e3 : ByteArray := prog_31_method_18_code
def yJx4a65c_elementData_915e3 : MethodName := ⟨RJx4a65c, "elementData", "(I)Ljava/lang/Object;"⟩
abbrev cJx4a65c_get_915e3 : ByteArray := prog_31_method_20_code
def yJx4a65c_get_915e3 : MethodName := ⟨RJx4a65c, "get", "(I)Ljava/lang/Object;"⟩
abbrev cJx4a65c_add_72be8 : ByteArray := prog_31_method_24_code
def yJx4a65c_add_72be8 : MethodName := ⟨RJx4a65c, "add", "(Ljava/lang/Object;[Ljava/lang/Object;I)V"⟩
abbrev cJx4a65c_add_9ea2d : ByteArray := prog_31_method_25_code
def yJx4a65c_add_9ea2d : MethodName := ⟨RJx4a65c, "add", "(Ljava/lang/Object;)Z"⟩
def RJ7 : String := "java/util/Arrays"
def TJ7 : u_T := fun k => match k with
  | _ => ("", "", "", false)
def tyJ7 : Nat → FieldType := fun k => match k with
  | _ => .int
abbrev wsJ70 : List Cond := u_ws RJ7 TJ7 0
theorem nmJ7 : ∀ a, a < 0 → ∀ b, b < 0 → a ≠ b → (TJ7 a).2.1 ≠ (TJ7 b).2.1 := by decide +kernel
theorem tyJ7_ok : ∀ k, k < 0 → parseFieldDescriptor (TJ7 k).2.2.1 = some (tyJ7 k) := by decide +kernel
abbrev cJ7_copyOf_1904c : ByteArray := prog_32_method_119_code
def yJ7_copyOf_1904c : MethodName := ⟨RJ7, "copyOf", "([Ljava/lang/Object;I)[Ljava/lang/Object;"⟩
abbrev cJ7_copyOf_6403c : ByteArray := prog_32_method_120_code
def yJ7_copyOf_6403c : MethodName := ⟨RJ7, "copyOf", "([Ljava/lang/Object;ILjava/lang/Class;)[Ljava/lang/Object;"⟩
def RJx5ef63 : String := "java/util/Collection"
def TJx5ef63 : u_T := fun k => match k with
  | _ => ("", "", "", false)
def tyJx5ef63 : Nat → FieldType := fun k => match k with
  | _ => .int
abbrev wsJx5ef630 : List Cond := u_ws RJx5ef63 TJx5ef63 0
theorem nmJx5ef63 : ∀ a, a < 0 → ∀ b, b < 0 → a ≠ b → (TJx5ef63 a).2.1 ≠ (TJx5ef63 b).2.1 := by decide +kernel
theorem tyJx5ef63_ok : ∀ k, k < 0 → parseFieldDescriptor (TJx5ef63 k).2.2.1 = some (tyJx5ef63 k) := by decide +kernel
def RJxbd725 : String := "java/util/List"
def TJxbd725 : u_T := fun k => match k with
  | _ => ("", "", "", false)
def tyJxbd725 : Nat → FieldType := fun k => match k with
  | _ => .int
abbrev wsJxbd7250 : List Cond := u_ws RJxbd725 TJxbd725 0
theorem nmJxbd725 : ∀ a, a < 0 → ∀ b, b < 0 → a ≠ b → (TJxbd725 a).2.1 ≠ (TJxbd725 b).2.1 := by decide +kernel
theorem tyJxbd725_ok : ∀ k, k < 0 → parseFieldDescriptor (TJxbd725 k).2.2.1 = some (tyJxbd725 k) := by decide +kernel
def RJ15 : String := "java/util/Objects"
def TJ15 : u_T := fun k => match k with
  | _ => ("", "", "", false)
def tyJ15 : Nat → FieldType := fun k => match k with
  | _ => .int
abbrev wsJ150 : List Cond := u_ws RJ15 TJ15 0
theorem nmJ15 : ∀ a, a < 0 → ∀ b, b < 0 → a ≠ b → (TJ15 a).2.1 ≠ (TJ15 b).2.1 := by decide +kernel
theorem tyJ15_ok : ∀ k, k < 0 → parseFieldDescriptor (TJ15 k).2.2.1 = some (tyJ15 k) := by decide +kernel
abbrev cJ15_checkIndex_7cf53 : ByteArray := prog_35_method_17_code
def yJ15_checkIndex_7cf53 : MethodName := ⟨RJ15, "checkIndex", "(II)I"⟩
def RJxf0a74 : String := "java/util/RandomAccess"
def TJxf0a74 : u_T := fun k => match k with
  | _ => ("", "", "", false)
def tyJxf0a74 : Nat → FieldType := fun k => match k with
  | _ => .int
abbrev wsJxf0a740 : List Cond := u_ws RJxf0a74 TJxf0a74 0
theorem nmJxf0a74 : ∀ a, a < 0 → ∀ b, b < 0 → a ≠ b → (TJxf0a74 a).2.1 ≠ (TJxf0a74 b).2.1 := by decide +kernel
theorem tyJxf0a74_ok : ∀ k, k < 0 → parseFieldDescriptor (TJxf0a74 k).2.2.1 = some (tyJxf0a74 k) := by decide +kernel
def RJxa66e6 : String := "java/util/SequencedCollection"
def TJxa66e6 : u_T := fun k => match k with
  | _ => ("", "", "", false)
def tyJxa66e6 : Nat → FieldType := fun k => match k with
  | _ => .int
abbrev wsJxa66e60 : List Cond := u_ws RJxa66e6 TJxa66e6 0
theorem nmJxa66e6 : ∀ a, a < 0 → ∀ b, b < 0 → a ≠ b → (TJxa66e6 a).2.1 ≠ (TJxa66e6 b).2.1 := by decide +kernel
theorem tyJxa66e6_ok : ∀ k, k < 0 → parseFieldDescriptor (TJxa66e6 k).2.2.1 = some (tyJxa66e6 k) := by decide +kernel
def RJ8 : String := "jdk/internal/util/ArraysSupport"
def TJ8 : u_T := fun k => match k with
  | _ => ("", "", "", false)
def tyJ8 : Nat → FieldType := fun k => match k with
  | _ => .int
abbrev wsJ80 : List Cond := u_ws RJ8 TJ8 0
theorem nmJ8 : ∀ a, a < 0 → ∀ b, b < 0 → a ≠ b → (TJ8 a).2.1 ≠ (TJ8 b).2.1 := by decide +kernel
theorem tyJ8_ok : ∀ k, k < 0 → parseFieldDescriptor (TJ8 k).2.2.1 = some (tyJ8 k) := by decide +kernel
abbrev cJ8_newLength_cabcc : ByteArray := prog_38_method_27_code
def yJ8_newLength_cabcc : MethodName := ⟨RJ8, "newLength", "(III)I"⟩
abbrev cJ8_hugeLength_7cf53 : ByteArray := prog_38_method_28_code
def yJ8_hugeLength_7cf53 : MethodName := ⟨RJ8, "hugeLength", "(II)I"⟩
def RJ3 : String := "jdk/internal/util/Preconditions"
def TJ3 : u_T := fun k => match k with
  | _ => ("", "", "", false)
def tyJ3 : Nat → FieldType := fun k => match k with
  | _ => .int
abbrev wsJ30 : List Cond := u_ws RJ3 TJ3 0
theorem nmJ3 : ∀ a, a < 0 → ∀ b, b < 0 → a ≠ b → (TJ3 a).2.1 ≠ (TJ3 b).2.1 := by decide +kernel
theorem tyJ3_ok : ∀ k, k < 0 → parseFieldDescriptor (TJ3 k).2.2.1 = some (tyJ3 k) := by decide +kernel
abbrev cJ3_checkIndex_8e157 : ByteArray := prog_39_method_11_code
def yJ3_checkIndex_8e157 : MethodName := ⟨RJ3, "checkIndex", "(IILjava/util/function/BiFunction;)I"⟩
def RL : String := "SandglassLaw"
abbrev cL_below : ByteArray := method_2_code
def yL_below : MethodName := ⟨RL, "below", "(II)I"⟩
abbrev cL_cell : ByteArray := method_3_code
def yL_cell : MethodName := ⟨RL, "cell", "([II)I"⟩
abbrev cL_build : ByteArray := method_4_code
def yL_build : MethodName := ⟨RL, "build", "(LSandglass;[II[I[I)LSandglassLaw$Sim;"⟩
abbrev cL_isSound : ByteArray := method_5_code
def yL_isSound : MethodName := ⟨RL, "isSound", "(LSandglass;[I[I)Z"⟩
abbrev cL_law : ByteArray := code
def yL_law : MethodName := ⟨RL, "law", "([I)Z"⟩
abbrev vwCl : List vw_C := [(RJx4a65c, TJx4a65c, 3), (RX0, TX0, 1), (RX1, TX1, 4), (RX2, TX2, 17), (RX3, TX3, 7), (RX4, TX4, 2), (RX5, TX5, 4), (RX6, TX6, 10), (RX7, TX7, 10), (RX8, TX8, 4), (RX9, TX9, 35)]
end
section
theorem dX0_init_0 : decode cX0_init 0 = .ok (.aload_n 0, 1) := by decide +kernel
theorem dX0_init_1 : decode cX0_init 1 = .ok (.invokespecial 3, 3) := by decide +kernel
theorem dX0_init_4 : decode cX0_init 4 = .ok (.aload_n 0, 1) := by decide +kernel
theorem dX0_init_5 : decode cX0_init 5 = .ok (.sipush 512, 3) := by decide +kernel
theorem dX0_init_8 : decode cX0_init 8 = .ok (.newarray .int, 2) := by decide +kernel
theorem dX0_init_10 : decode cX0_init 10 = .ok (.putfield 9, 3) := by decide +kernel
theorem dX0_init_13 : decode cX0_init 13 = .ok (.return_, 1) := by decide +kernel
theorem dX1_init_0 : decode cX1_init 0 = .ok (.aload_n 0, 1) := by decide +kernel
theorem dX1_init_1 : decode cX1_init 1 = .ok (.invokespecial 1, 3) := by decide +kernel
theorem dX1_init_4 : decode cX1_init 4 = .ok (.aload_n 0, 1) := by decide +kernel
theorem dX1_init_5 : decode cX1_init 5 = .ok (.iload_n 1, 1) := by decide +kernel
theorem dX1_init_6 : decode cX1_init 6 = .ok (.putfield 7, 3) := by decide +kernel
theorem dX1_init_9 : decode cX1_init 9 = .ok (.aload_n 0, 1) := by decide +kernel
theorem dX1_init_10 : decode cX1_init 10 = .ok (.iload_n 2, 1) := by decide +kernel
theorem dX1_init_11 : decode cX1_init 11 = .ok (.putfield 13, 3) := by decide +kernel
theorem dX1_init_14 : decode cX1_init 14 = .ok (.aload_n 0, 1) := by decide +kernel
theorem dX1_init_15 : decode cX1_init 15 = .ok (.iload_n 3, 1) := by decide +kernel
theorem dX1_init_16 : decode cX1_init 16 = .ok (.putfield 16, 3) := by decide +kernel
theorem dX1_init_19 : decode cX1_init 19 = .ok (.aload_n 0, 1) := by decide +kernel
theorem dX1_init_20 : decode cX1_init 20 = .ok (.iload 4, 2) := by decide +kernel
theorem dX1_init_22 : decode cX1_init 22 = .ok (.putfield 19, 3) := by decide +kernel
theorem dX1_init_25 : decode cX1_init 25 = .ok (.return_, 1) := by decide +kernel
theorem dX2_init_0 : decode cX2_init 0 = .ok (.aload_n 0, 1) := by decide +kernel
theorem dX2_init_1 : decode cX2_init 1 = .ok (.invokespecial 3, 3) := by decide +kernel
theorem dX2_init_4 : decode cX2_init 4 = .ok (.aload_n 0, 1) := by decide +kernel
theorem dX2_init_5 : decode cX2_init 5 = .ok (.iconst (-1), 1) := by decide +kernel
theorem dX2_init_6 : decode cX2_init 6 = .ok (.putfield 9, 3) := by decide +kernel
theorem dX2_init_9 : decode cX2_init 9 = .ok (.aload_n 0, 1) := by decide +kernel
theorem dX2_init_10 : decode cX2_init 10 = .ok (.iconst (-1), 1) := by decide +kernel
theorem dX2_init_11 : decode cX2_init 11 = .ok (.putfield 15, 3) := by decide +kernel
theorem dX2_init_14 : decode cX2_init 14 = .ok (.aload_n 0, 1) := by decide +kernel
theorem dX2_init_15 : decode cX2_init 15 = .ok (.bipush 16, 2) := by decide +kernel
theorem dX2_init_17 : decode cX2_init 17 = .ok (.newarray .int, 2) := by decide +kernel
theorem dX2_init_19 : decode cX2_init 19 = .ok (.putfield 18, 3) := by decide +kernel
theorem dX2_init_22 : decode cX2_init 22 = .ok (.aload_n 0, 1) := by decide +kernel
theorem dX2_init_23 : decode cX2_init 23 = .ok (.bipush 6, 2) := by decide +kernel
theorem dX2_init_25 : decode cX2_init 25 = .ok (.newarray .int, 2) := by decide +kernel
theorem dX2_init_27 : decode cX2_init 27 = .ok (.putfield 22, 3) := by decide +kernel
theorem dX2_init_30 : decode cX2_init 30 = .ok (.aload_n 0, 1) := by decide +kernel
theorem dX2_init_31 : decode cX2_init 31 = .ok (.bipush 6, 2) := by decide +kernel
theorem dX2_init_33 : decode cX2_init 33 = .ok (.newarray .int, 2) := by decide +kernel
theorem dX2_init_35 : decode cX2_init 35 = .ok (.putfield 25, 3) := by decide +kernel
theorem dX2_init_38 : decode cX2_init 38 = .ok (.aload_n 0, 1) := by decide +kernel
theorem dX2_init_39 : decode cX2_init 39 = .ok (.iload_n 1, 1) := by decide +kernel
theorem dX2_init_40 : decode cX2_init 40 = .ok (.putfield 28, 3) := by decide +kernel
theorem dX2_init_43 : decode cX2_init 43 = .ok (.return_, 1) := by decide +kernel
theorem dX2_copyFrom_0 : decode cX2_copyFrom 0 = .ok (.aload_n 0, 1) := by decide +kernel
theorem dX2_copyFrom_1 : decode cX2_copyFrom 1 = .ok (.aload_n 1, 1) := by decide +kernel
theorem dX2_copyFrom_2 : decode cX2_copyFrom 2 = .ok (.getfield 31, 3) := by decide +kernel
theorem dX2_copyFrom_5 : decode cX2_copyFrom 5 = .ok (.putfield 31, 3) := by decide +kernel
theorem dX2_copyFrom_8 : decode cX2_copyFrom 8 = .ok (.aload_n 0, 1) := by decide +kernel
theorem dX2_copyFrom_9 : decode cX2_copyFrom 9 = .ok (.aload_n 1, 1) := by decide +kernel
theorem dX2_copyFrom_10 : decode cX2_copyFrom 10 = .ok (.getfield 35, 3) := by decide +kernel
theorem dX2_copyFrom_13 : decode cX2_copyFrom 13 = .ok (.putfield 35, 3) := by decide +kernel
theorem dX2_copyFrom_16 : decode cX2_copyFrom 16 = .ok (.aload_n 0, 1) := by decide +kernel
theorem dX2_copyFrom_17 : decode cX2_copyFrom 17 = .ok (.aload_n 1, 1) := by decide +kernel
theorem dX2_copyFrom_18 : decode cX2_copyFrom 18 = .ok (.getfield 38, 3) := by decide +kernel
theorem dX2_copyFrom_21 : decode cX2_copyFrom 21 = .ok (.putfield 38, 3) := by decide +kernel
theorem dX2_copyFrom_24 : decode cX2_copyFrom 24 = .ok (.aload_n 0, 1) := by decide +kernel
theorem dX2_copyFrom_25 : decode cX2_copyFrom 25 = .ok (.aload_n 1, 1) := by decide +kernel
theorem dX2_copyFrom_26 : decode cX2_copyFrom 26 = .ok (.getfield 41, 3) := by decide +kernel
theorem dX2_copyFrom_29 : decode cX2_copyFrom 29 = .ok (.putfield 41, 3) := by decide +kernel
theorem dX2_copyFrom_32 : decode cX2_copyFrom 32 = .ok (.aload_n 0, 1) := by decide +kernel
theorem dX2_copyFrom_33 : decode cX2_copyFrom 33 = .ok (.aload_n 1, 1) := by decide +kernel
theorem dX2_copyFrom_34 : decode cX2_copyFrom 34 = .ok (.getfield 44, 3) := by decide +kernel
theorem dX2_copyFrom_37 : decode cX2_copyFrom 37 = .ok (.putfield 44, 3) := by decide +kernel
theorem dX2_copyFrom_40 : decode cX2_copyFrom 40 = .ok (.aload_n 0, 1) := by decide +kernel
theorem dX2_copyFrom_41 : decode cX2_copyFrom 41 = .ok (.aload_n 1, 1) := by decide +kernel
theorem dX2_copyFrom_42 : decode cX2_copyFrom 42 = .ok (.getfield 47, 3) := by decide +kernel
theorem dX2_copyFrom_45 : decode cX2_copyFrom 45 = .ok (.putfield 47, 3) := by decide +kernel
theorem dX2_copyFrom_48 : decode cX2_copyFrom 48 = .ok (.aload_n 0, 1) := by decide +kernel
theorem dX2_copyFrom_49 : decode cX2_copyFrom 49 = .ok (.aload_n 1, 1) := by decide +kernel
theorem dX2_copyFrom_50 : decode cX2_copyFrom 50 = .ok (.getfield 9, 3) := by decide +kernel
theorem dX2_copyFrom_53 : decode cX2_copyFrom 53 = .ok (.putfield 9, 3) := by decide +kernel
theorem dX2_copyFrom_56 : decode cX2_copyFrom 56 = .ok (.aload_n 0, 1) := by decide +kernel
theorem dX2_copyFrom_57 : decode cX2_copyFrom 57 = .ok (.aload_n 1, 1) := by decide +kernel
theorem dX2_copyFrom_58 : decode cX2_copyFrom 58 = .ok (.getfield 50, 3) := by decide +kernel
theorem dX2_copyFrom_61 : decode cX2_copyFrom 61 = .ok (.putfield 50, 3) := by decide +kernel
theorem dX2_copyFrom_64 : decode cX2_copyFrom 64 = .ok (.aload_n 0, 1) := by decide +kernel
theorem dX2_copyFrom_65 : decode cX2_copyFrom 65 = .ok (.aload_n 1, 1) := by decide +kernel
theorem dX2_copyFrom_66 : decode cX2_copyFrom 66 = .ok (.getfield 15, 3) := by decide +kernel
theorem dX2_copyFrom_69 : decode cX2_copyFrom 69 = .ok (.putfield 15, 3) := by decide +kernel
theorem dX2_copyFrom_72 : decode cX2_copyFrom 72 = .ok (.aload_n 0, 1) := by decide +kernel
theorem dX2_copyFrom_73 : decode cX2_copyFrom 73 = .ok (.aload_n 1, 1) := by decide +kernel
theorem dX2_copyFrom_74 : decode cX2_copyFrom 74 = .ok (.getfield 53, 3) := by decide +kernel
theorem dX2_copyFrom_77 : decode cX2_copyFrom 77 = .ok (.putfield 53, 3) := by decide +kernel
theorem dX2_copyFrom_80 : decode cX2_copyFrom 80 = .ok (.aload_n 0, 1) := by decide +kernel
theorem dX2_copyFrom_81 : decode cX2_copyFrom 81 = .ok (.aload_n 1, 1) := by decide +kernel
theorem dX2_copyFrom_82 : decode cX2_copyFrom 82 = .ok (.getfield 56, 3) := by decide +kernel
theorem dX2_copyFrom_85 : decode cX2_copyFrom 85 = .ok (.putfield 56, 3) := by decide +kernel
theorem dX2_copyFrom_88 : decode cX2_copyFrom 88 = .ok (.aload_n 0, 1) := by decide +kernel
theorem dX2_copyFrom_89 : decode cX2_copyFrom 89 = .ok (.aload_n 1, 1) := by decide +kernel
theorem dX2_copyFrom_90 : decode cX2_copyFrom 90 = .ok (.getfield 59, 3) := by decide +kernel
theorem dX2_copyFrom_93 : decode cX2_copyFrom 93 = .ok (.putfield 59, 3) := by decide +kernel
theorem dX2_copyFrom_96 : decode cX2_copyFrom 96 = .ok (.aload_n 0, 1) := by decide +kernel
theorem dX2_copyFrom_97 : decode cX2_copyFrom 97 = .ok (.aload_n 1, 1) := by decide +kernel
theorem dX2_copyFrom_98 : decode cX2_copyFrom 98 = .ok (.getfield 62, 3) := by decide +kernel
theorem dX2_copyFrom_101 : decode cX2_copyFrom 101 = .ok (.putfield 62, 3) := by decide +kernel
theorem dX2_copyFrom_104 : decode cX2_copyFrom 104 = .ok (.aload_n 1, 1) := by decide +kernel
theorem dX2_copyFrom_105 : decode cX2_copyFrom 105 = .ok (.getfield 18, 3) := by decide +kernel
theorem dX2_copyFrom_108 : decode cX2_copyFrom 108 = .ok (.aload_n 0, 1) := by decide +kernel
theorem dX2_copyFrom_109 : decode cX2_copyFrom 109 = .ok (.getfield 18, 3) := by decide +kernel
theorem dX2_copyFrom_112 : decode cX2_copyFrom 112 = .ok (.invokestatic 66, 3) := by decide +kernel
theorem dX2_copyFrom_115 : decode cX2_copyFrom 115 = .ok (.aload_n 1, 1) := by decide +kernel
theorem dX2_copyFrom_116 : decode cX2_copyFrom 116 = .ok (.getfield 22, 3) := by decide +kernel
theorem dX2_copyFrom_119 : decode cX2_copyFrom 119 = .ok (.aload_n 0, 1) := by decide +kernel
theorem dX2_copyFrom_120 : decode cX2_copyFrom 120 = .ok (.getfield 22, 3) := by decide +kernel
theorem dX2_copyFrom_123 : decode cX2_copyFrom 123 = .ok (.invokestatic 66, 3) := by decide +kernel
theorem dX2_copyFrom_126 : decode cX2_copyFrom 126 = .ok (.aload_n 1, 1) := by decide +kernel
theorem dX2_copyFrom_127 : decode cX2_copyFrom 127 = .ok (.getfield 25, 3) := by decide +kernel
theorem dX2_copyFrom_130 : decode cX2_copyFrom 130 = .ok (.aload_n 0, 1) := by decide +kernel
theorem dX2_copyFrom_131 : decode cX2_copyFrom 131 = .ok (.getfield 25, 3) := by decide +kernel
theorem dX2_copyFrom_134 : decode cX2_copyFrom 134 = .ok (.invokestatic 66, 3) := by decide +kernel
theorem dX2_copyFrom_137 : decode cX2_copyFrom 137 = .ok (.return_, 1) := by decide +kernel
theorem dX2_isOver_0 : decode cX2_isOver 0 = .ok (.aload_n 0, 1) := by decide +kernel
theorem dX2_isOver_1 : decode cX2_isOver 1 = .ok (.getfield 47, 3) := by decide +kernel
theorem dX2_isOver_4 : decode cX2_isOver 4 = .ok (.iconst 5, 1) := by decide +kernel
theorem dX2_isOver_5 : decode cX2_isOver 5 = .ok (.if_icmp .eq 21, 3) := by decide +kernel
theorem dX2_isOver_8 : decode cX2_isOver 8 = .ok (.aload_n 0, 1) := by decide +kernel
theorem dX2_isOver_9 : decode cX2_isOver 9 = .ok (.getfield 47, 3) := by decide +kernel
theorem dX2_isOver_12 : decode cX2_isOver 12 = .ok (.bipush 6, 2) := by decide +kernel
theorem dX2_isOver_14 : decode cX2_isOver 14 = .ok (.if_icmp .eq 12, 3) := by decide +kernel
theorem dX2_isOver_17 : decode cX2_isOver 17 = .ok (.aload_n 0, 1) := by decide +kernel
theorem dX2_isOver_18 : decode cX2_isOver 18 = .ok (.getfield 47, 3) := by decide +kernel
theorem dX2_isOver_21 : decode cX2_isOver 21 = .ok (.bipush 7, 2) := by decide +kernel
theorem dX2_isOver_23 : decode cX2_isOver 23 = .ok (.if_icmp .ne 7, 3) := by decide +kernel
theorem dX2_isOver_26 : decode cX2_isOver 26 = .ok (.iconst 1, 1) := by decide +kernel
theorem dX2_isOver_27 : decode cX2_isOver 27 = .ok (.goto 4, 3) := by decide +kernel
theorem dX2_isOver_30 : decode cX2_isOver 30 = .ok (.iconst 0, 1) := by decide +kernel
theorem dX2_isOver_31 : decode cX2_isOver 31 = .ok (.ireturn, 1) := by decide +kernel
theorem dX2_nextInstruction_0 : decode cX2_nextInstruction 0 = .ok (.aload_n 0, 1) := by decide +kernel
theorem dX2_nextInstruction_1 : decode cX2_nextInstruction 1 = .ok (.getfield 31, 3) := by decide +kernel
theorem dX2_nextInstruction_4 : decode cX2_nextInstruction 4 = .ok (.ifnonnull 7, 3) := by decide +kernel
theorem dX2_nextInstruction_7 : decode cX2_nextInstruction 7 = .ok (.aconst_null, 1) := by decide +kernel
theorem dX2_nextInstruction_8 : decode cX2_nextInstruction 8 = .ok (.goto 14, 3) := by decide +kernel
theorem dX2_nextInstruction_11 : decode cX2_nextInstruction 11 = .ok (.aload_n 0, 1) := by decide +kernel
theorem dX2_nextInstruction_12 : decode cX2_nextInstruction 12 = .ok (.getfield 31, 3) := by decide +kernel
theorem dX2_nextInstruction_15 : decode cX2_nextInstruction 15 = .ok (.aload_n 0, 1) := by decide +kernel
theorem dX2_nextInstruction_16 : decode cX2_nextInstruction 16 = .ok (.getfield 38, 3) := by decide +kernel
theorem dX2_nextInstruction_19 : decode cX2_nextInstruction 19 = .ok (.invokevirtual 70, 3) := by decide +kernel
theorem dX2_nextInstruction_22 : decode cX2_nextInstruction 22 = .ok (.areturn, 1) := by decide +kernel
theorem dX2_goesBefore_0 : decode cX2_goesBefore 0 = .ok (.aload_n 0, 1) := by decide +kernel
theorem dX2_goesBefore_1 : decode cX2_goesBefore 1 = .ok (.getfield 9, 3) := by decide +kernel
theorem dX2_goesBefore_4 : decode cX2_goesBefore 4 = .ok (.aload_n 1, 1) := by decide +kernel
theorem dX2_goesBefore_5 : decode cX2_goesBefore 5 = .ok (.getfield 9, 3) := by decide +kernel
theorem dX2_goesBefore_8 : decode cX2_goesBefore 8 = .ok (.if_icmp .lt 25, 3) := by decide +kernel
theorem dX2_goesBefore_11 : decode cX2_goesBefore 11 = .ok (.aload_n 0, 1) := by decide +kernel
theorem dX2_goesBefore_12 : decode cX2_goesBefore 12 = .ok (.getfield 9, 3) := by decide +kernel
theorem dX2_goesBefore_15 : decode cX2_goesBefore 15 = .ok (.aload_n 1, 1) := by decide +kernel
theorem dX2_goesBefore_16 : decode cX2_goesBefore 16 = .ok (.getfield 9, 3) := by decide +kernel
theorem dX2_goesBefore_19 : decode cX2_goesBefore 19 = .ok (.if_icmp .ne 18, 3) := by decide +kernel
theorem dX2_goesBefore_22 : decode cX2_goesBefore 22 = .ok (.aload_n 0, 1) := by decide +kernel
theorem dX2_goesBefore_23 : decode cX2_goesBefore 23 = .ok (.getfield 50, 3) := by decide +kernel
theorem dX2_goesBefore_26 : decode cX2_goesBefore 26 = .ok (.aload_n 1, 1) := by decide +kernel
theorem dX2_goesBefore_27 : decode cX2_goesBefore 27 = .ok (.getfield 50, 3) := by decide +kernel
theorem dX2_goesBefore_30 : decode cX2_goesBefore 30 = .ok (.if_icmp .ge 7, 3) := by decide +kernel
theorem dX2_goesBefore_33 : decode cX2_goesBefore 33 = .ok (.iconst 1, 1) := by decide +kernel
theorem dX2_goesBefore_34 : decode cX2_goesBefore 34 = .ok (.goto 4, 3) := by decide +kernel
theorem dX2_goesBefore_37 : decode cX2_goesBefore 37 = .ok (.iconst 0, 1) := by decide +kernel
theorem dX2_goesBefore_38 : decode cX2_goesBefore 38 = .ok (.ireturn, 1) := by decide +kernel
theorem dX2_standsBefore_0 : decode cX2_standsBefore 0 = .ok (.aload_n 0, 1) := by decide +kernel
theorem dX2_standsBefore_1 : decode cX2_standsBefore 1 = .ok (.getfield 53, 3) := by decide +kernel
theorem dX2_standsBefore_4 : decode cX2_standsBefore 4 = .ok (.aload_n 1, 1) := by decide +kernel
theorem dX2_standsBefore_5 : decode cX2_standsBefore 5 = .ok (.getfield 53, 3) := by decide +kernel
theorem dX2_standsBefore_8 : decode cX2_standsBefore 8 = .ok (.if_icmp .lt 25, 3) := by decide +kernel
theorem dX2_standsBefore_11 : decode cX2_standsBefore 11 = .ok (.aload_n 0, 1) := by decide +kernel
theorem dX2_standsBefore_12 : decode cX2_standsBefore 12 = .ok (.getfield 53, 3) := by decide +kernel
theorem dX2_standsBefore_15 : decode cX2_standsBefore 15 = .ok (.aload_n 1, 1) := by decide +kernel
theorem dX2_standsBefore_16 : decode cX2_standsBefore 16 = .ok (.getfield 53, 3) := by decide +kernel
theorem dX2_standsBefore_19 : decode cX2_standsBefore 19 = .ok (.if_icmp .ne 18, 3) := by decide +kernel
theorem dX2_standsBefore_22 : decode cX2_standsBefore 22 = .ok (.aload_n 0, 1) := by decide +kernel
theorem dX2_standsBefore_23 : decode cX2_standsBefore 23 = .ok (.getfield 56, 3) := by decide +kernel
theorem dX2_standsBefore_26 : decode cX2_standsBefore 26 = .ok (.aload_n 1, 1) := by decide +kernel
theorem dX2_standsBefore_27 : decode cX2_standsBefore 27 = .ok (.getfield 56, 3) := by decide +kernel
theorem dX2_standsBefore_30 : decode cX2_standsBefore 30 = .ok (.if_icmp .ge 7, 3) := by decide +kernel
theorem dX2_standsBefore_33 : decode cX2_standsBefore 33 = .ok (.iconst 1, 1) := by decide +kernel
theorem dX2_standsBefore_34 : decode cX2_standsBefore 34 = .ok (.goto 4, 3) := by decide +kernel
theorem dX2_standsBefore_37 : decode cX2_standsBefore 37 = .ok (.iconst 0, 1) := by decide +kernel
theorem dX2_standsBefore_38 : decode cX2_standsBefore 38 = .ok (.ireturn, 1) := by decide +kernel
theorem dX2_yieldsBefore_0 : decode cX2_yieldsBefore 0 = .ok (.aload_n 0, 1) := by decide +kernel
theorem dX2_yieldsBefore_1 : decode cX2_yieldsBefore 1 = .ok (.getfield 35, 3) := by decide +kernel
theorem dX2_yieldsBefore_4 : decode cX2_yieldsBefore 4 = .ok (.aload_n 1, 1) := by decide +kernel
theorem dX2_yieldsBefore_5 : decode cX2_yieldsBefore 5 = .ok (.getfield 35, 3) := by decide +kernel
theorem dX2_yieldsBefore_8 : decode cX2_yieldsBefore 8 = .ok (.if_icmp .gt 33, 3) := by decide +kernel
theorem dX2_yieldsBefore_11 : decode cX2_yieldsBefore 11 = .ok (.aload_n 0, 1) := by decide +kernel
theorem dX2_yieldsBefore_12 : decode cX2_yieldsBefore 12 = .ok (.getfield 35, 3) := by decide +kernel
theorem dX2_yieldsBefore_15 : decode cX2_yieldsBefore 15 = .ok (.aload_n 1, 1) := by decide +kernel
theorem dX2_yieldsBefore_16 : decode cX2_yieldsBefore 16 = .ok (.getfield 35, 3) := by decide +kernel
theorem dX2_yieldsBefore_19 : decode cX2_yieldsBefore 19 = .ok (.if_icmp .ne 26, 3) := by decide +kernel
theorem dX2_yieldsBefore_22 : decode cX2_yieldsBefore 22 = .ok (.aload_n 0, 1) := by decide +kernel
theorem dX2_yieldsBefore_23 : decode cX2_yieldsBefore 23 = .ok (.getfield 25, 3) := by decide +kernel
theorem dX2_yieldsBefore_26 : decode cX2_yieldsBefore 26 = .ok (.iload_n 2, 1) := by decide +kernel
theorem dX2_yieldsBefore_27 : decode cX2_yieldsBefore 27 = .ok (.invokestatic 76, 3) := by decide +kernel
theorem dX2_yieldsBefore_30 : decode cX2_yieldsBefore 30 = .ok (.aload_n 1, 1) := by decide +kernel
theorem dX2_yieldsBefore_31 : decode cX2_yieldsBefore 31 = .ok (.getfield 25, 3) := by decide +kernel
theorem dX2_yieldsBefore_34 : decode cX2_yieldsBefore 34 = .ok (.iload_n 2, 1) := by decide +kernel
theorem dX2_yieldsBefore_35 : decode cX2_yieldsBefore 35 = .ok (.invokestatic 76, 3) := by decide +kernel
theorem dX2_yieldsBefore_38 : decode cX2_yieldsBefore 38 = .ok (.if_icmp .le 7, 3) := by decide +kernel
theorem dX2_yieldsBefore_41 : decode cX2_yieldsBefore 41 = .ok (.iconst 1, 1) := by decide +kernel
theorem dX2_yieldsBefore_42 : decode cX2_yieldsBefore 42 = .ok (.goto 4, 3) := by decide +kernel
theorem dX2_yieldsBefore_45 : decode cX2_yieldsBefore 45 = .ok (.iconst 0, 1) := by decide +kernel
theorem dX2_yieldsBefore_46 : decode cX2_yieldsBefore 46 = .ok (.ireturn, 1) := by decide +kernel
theorem dX2_heldInAll_0 : decode cX2_heldInAll 0 = .ok (.iconst 0, 1) := by decide +kernel
theorem dX2_heldInAll_1 : decode cX2_heldInAll 1 = .ok (.istore_n 1, 1) := by decide +kernel
theorem dX2_heldInAll_2 : decode cX2_heldInAll 2 = .ok (.aload_n 0, 1) := by decide +kernel
theorem dX2_heldInAll_3 : decode cX2_heldInAll 3 = .ok (.getfield 22, 3) := by decide +kernel
theorem dX2_heldInAll_6 : decode cX2_heldInAll 6 = .ok (.astore_n 2, 1) := by decide +kernel
theorem dX2_heldInAll_7 : decode cX2_heldInAll 7 = .ok (.aload_n 2, 1) := by decide +kernel
theorem dX2_heldInAll_8 : decode cX2_heldInAll 8 = .ok (.arraylength, 1) := by decide +kernel
theorem dX2_heldInAll_9 : decode cX2_heldInAll 9 = .ok (.istore_n 3, 1) := by decide +kernel
theorem dX2_heldInAll_10 : decode cX2_heldInAll 10 = .ok (.iconst 0, 1) := by decide +kernel
theorem dX2_heldInAll_11 : decode cX2_heldInAll 11 = .ok (.istore 4, 2) := by decide +kernel
theorem dX2_heldInAll_13 : decode cX2_heldInAll 13 = .ok (.iload 4, 2) := by decide +kernel
theorem dX2_heldInAll_15 : decode cX2_heldInAll 15 = .ok (.iload_n 3, 1) := by decide +kernel
theorem dX2_heldInAll_16 : decode cX2_heldInAll 16 = .ok (.if_icmp .ge 20, 3) := by decide +kernel
theorem dX2_heldInAll_19 : decode cX2_heldInAll 19 = .ok (.aload_n 2, 1) := by decide +kernel
theorem dX2_heldInAll_20 : decode cX2_heldInAll 20 = .ok (.iload 4, 2) := by decide +kernel
theorem dX2_heldInAll_22 : decode cX2_heldInAll 22 = .ok (.iaload, 1) := by decide +kernel
theorem dX2_heldInAll_23 : decode cX2_heldInAll 23 = .ok (.istore 5, 2) := by decide +kernel
theorem dX2_heldInAll_25 : decode cX2_heldInAll 25 = .ok (.iload_n 1, 1) := by decide +kernel
theorem dX2_heldInAll_26 : decode cX2_heldInAll 26 = .ok (.iload 5, 2) := by decide +kernel
theorem dX2_heldInAll_28 : decode cX2_heldInAll 28 = .ok (.iadd, 1) := by decide +kernel
theorem dX2_heldInAll_29 : decode cX2_heldInAll 29 = .ok (.istore_n 1, 1) := by decide +kernel
theorem dX2_heldInAll_30 : decode cX2_heldInAll 30 = .ok (.iinc 4 1, 3) := by decide +kernel
theorem dX2_heldInAll_33 : decode cX2_heldInAll 33 = .ok (.goto (-20), 3) := by decide +kernel
theorem dX2_heldInAll_36 : decode cX2_heldInAll 36 = .ok (.iload_n 1, 1) := by decide +kernel
theorem dX2_heldInAll_37 : decode cX2_heldInAll 37 = .ok (.ireturn, 1) := by decide +kernel
theorem dX3_init_0 : decode cX3_init 0 = .ok (.aload_n 0, 1) := by decide +kernel
theorem dX3_init_1 : decode cX3_init 1 = .ok (.invokespecial 1, 3) := by decide +kernel
theorem dX3_init_4 : decode cX3_init 4 = .ok (.aload_n 0, 1) := by decide +kernel
theorem dX3_init_5 : decode cX3_init 5 = .ok (.iload_n 1, 1) := by decide +kernel
theorem dX3_init_6 : decode cX3_init 6 = .ok (.putfield 7, 3) := by decide +kernel
theorem dX3_init_9 : decode cX3_init 9 = .ok (.aload_n 0, 1) := by decide +kernel
theorem dX3_init_10 : decode cX3_init 10 = .ok (.iload_n 2, 1) := by decide +kernel
theorem dX3_init_11 : decode cX3_init 11 = .ok (.putfield 13, 3) := by decide +kernel
theorem dX3_init_14 : decode cX3_init 14 = .ok (.aload_n 0, 1) := by decide +kernel
theorem dX3_init_15 : decode cX3_init 15 = .ok (.iload_n 3, 1) := by decide +kernel
theorem dX3_init_16 : decode cX3_init 16 = .ok (.putfield 16, 3) := by decide +kernel
theorem dX3_init_19 : decode cX3_init 19 = .ok (.aload_n 0, 1) := by decide +kernel
theorem dX3_init_20 : decode cX3_init 20 = .ok (.iload_n 3, 1) := by decide +kernel
theorem dX3_init_21 : decode cX3_init 21 = .ok (.putfield 19, 3) := by decide +kernel
theorem dX3_init_24 : decode cX3_init 24 = .ok (.return_, 1) := by decide +kernel
theorem dX3_copyFrom_0 : decode cX3_copyFrom 0 = .ok (.aload_n 0, 1) := by decide +kernel
theorem dX3_copyFrom_1 : decode cX3_copyFrom 1 = .ok (.aload_n 1, 1) := by decide +kernel
theorem dX3_copyFrom_2 : decode cX3_copyFrom 2 = .ok (.getfield 19, 3) := by decide +kernel
theorem dX3_copyFrom_5 : decode cX3_copyFrom 5 = .ok (.putfield 19, 3) := by decide +kernel
theorem dX3_copyFrom_8 : decode cX3_copyFrom 8 = .ok (.aload_n 0, 1) := by decide +kernel
theorem dX3_copyFrom_9 : decode cX3_copyFrom 9 = .ok (.aload_n 1, 1) := by decide +kernel
theorem dX3_copyFrom_10 : decode cX3_copyFrom 10 = .ok (.getfield 22, 3) := by decide +kernel
theorem dX3_copyFrom_13 : decode cX3_copyFrom 13 = .ok (.putfield 22, 3) := by decide +kernel
theorem dX3_copyFrom_16 : decode cX3_copyFrom 16 = .ok (.aload_n 0, 1) := by decide +kernel
theorem dX3_copyFrom_17 : decode cX3_copyFrom 17 = .ok (.aload_n 1, 1) := by decide +kernel
theorem dX3_copyFrom_18 : decode cX3_copyFrom 18 = .ok (.getfield 25, 3) := by decide +kernel
theorem dX3_copyFrom_21 : decode cX3_copyFrom 21 = .ok (.putfield 25, 3) := by decide +kernel
theorem dX3_copyFrom_24 : decode cX3_copyFrom 24 = .ok (.aload_n 0, 1) := by decide +kernel
theorem dX3_copyFrom_25 : decode cX3_copyFrom 25 = .ok (.aload_n 1, 1) := by decide +kernel
theorem dX3_copyFrom_26 : decode cX3_copyFrom 26 = .ok (.getfield 28, 3) := by decide +kernel
theorem dX3_copyFrom_29 : decode cX3_copyFrom 29 = .ok (.putfield 28, 3) := by decide +kernel
theorem dX3_copyFrom_32 : decode cX3_copyFrom 32 = .ok (.return_, 1) := by decide +kernel
theorem dX4_init_0 : decode cX4_init 0 = .ok (.aload_n 0, 1) := by decide +kernel
theorem dX4_init_1 : decode cX4_init 1 = .ok (.invokespecial 3, 3) := by decide +kernel
theorem dX4_init_4 : decode cX4_init 4 = .ok (.aload_n 0, 1) := by decide +kernel
theorem dX4_init_5 : decode cX4_init 5 = .ok (.new 9, 3) := by decide +kernel
theorem dX4_init_8 : decode cX4_init 8 = .ok (.dup, 1) := by decide +kernel
theorem dX4_init_9 : decode cX4_init 9 = .ok (.invokespecial 11, 3) := by decide +kernel
theorem dX4_init_12 : decode cX4_init 12 = .ok (.putfield 12, 3) := by decide +kernel
theorem dX4_init_15 : decode cX4_init 15 = .ok (.aload_n 0, 1) := by decide +kernel
theorem dX4_init_16 : decode cX4_init 16 = .ok (.iconst (-1), 1) := by decide +kernel
theorem dX4_init_17 : decode cX4_init 17 = .ok (.putfield 18, 3) := by decide +kernel
theorem dX4_init_20 : decode cX4_init 20 = .ok (.return_, 1) := by decide +kernel
theorem dX4_instructionAt_0 : decode cX4_instructionAt 0 = .ok (.iload_n 1, 1) := by decide +kernel
theorem dX4_instructionAt_1 : decode cX4_instructionAt 1 = .ok (.ifCond .lt 28, 3) := by decide +kernel
theorem dX4_instructionAt_4 : decode cX4_instructionAt 4 = .ok (.iload_n 1, 1) := by decide +kernel
theorem dX4_instructionAt_5 : decode cX4_instructionAt 5 = .ok (.aload_n 0, 1) := by decide +kernel
theorem dX4_instructionAt_6 : decode cX4_instructionAt 6 = .ok (.getfield 12, 3) := by decide +kernel
theorem dX4_instructionAt_9 : decode cX4_instructionAt 9 = .ok (.invokevirtual 22, 3) := by decide +kernel
theorem dX4_instructionAt_12 : decode cX4_instructionAt 12 = .ok (.if_icmp .ge 17, 3) := by decide +kernel
theorem dX4_instructionAt_15 : decode cX4_instructionAt 15 = .ok (.aload_n 0, 1) := by decide +kernel
theorem dX4_instructionAt_16 : decode cX4_instructionAt 16 = .ok (.getfield 12, 3) := by decide +kernel
theorem dX4_instructionAt_19 : decode cX4_instructionAt 19 = .ok (.iload_n 1, 1) := by decide +kernel
theorem dX4_instructionAt_20 : decode cX4_instructionAt 20 = .ok (.invokevirtual 26, 3) := by decide +kernel
theorem dX4_instructionAt_23 : decode cX4_instructionAt 23 = .ok (.checkcast 30, 3) := by decide +kernel
theorem dX4_instructionAt_26 : decode cX4_instructionAt 26 = .ok (.goto 4, 3) := by decide +kernel
theorem dX4_instructionAt_29 : decode cX4_instructionAt 29 = .ok (.aconst_null, 1) := by decide +kernel
theorem dX4_instructionAt_30 : decode cX4_instructionAt 30 = .ok (.areturn, 1) := by decide +kernel
theorem dX5_init_0 : decode cX5_init 0 = .ok (.aload_n 0, 1) := by decide +kernel
theorem dX5_init_1 : decode cX5_init 1 = .ok (.invokespecial 3, 3) := by decide +kernel
theorem dX5_init_4 : decode cX5_init 4 = .ok (.aload_n 0, 1) := by decide +kernel
theorem dX5_init_5 : decode cX5_init 5 = .ok (.iload_n 1, 1) := by decide +kernel
theorem dX5_init_6 : decode cX5_init 6 = .ok (.putfield 9, 3) := by decide +kernel
theorem dX5_init_9 : decode cX5_init 9 = .ok (.aload_n 0, 1) := by decide +kernel
theorem dX5_init_10 : decode cX5_init 10 = .ok (.iload_n 2, 1) := by decide +kernel
theorem dX5_init_11 : decode cX5_init 11 = .ok (.putfield 15, 3) := by decide +kernel
theorem dX5_init_14 : decode cX5_init 14 = .ok (.aload_n 0, 1) := by decide +kernel
theorem dX5_init_15 : decode cX5_init 15 = .ok (.iload_n 3, 1) := by decide +kernel
theorem dX5_init_16 : decode cX5_init 16 = .ok (.putfield 18, 3) := by decide +kernel
theorem dX5_init_19 : decode cX5_init 19 = .ok (.return_, 1) := by decide +kernel
theorem dX5_copyFrom_0 : decode cX5_copyFrom 0 = .ok (.aload_n 0, 1) := by decide +kernel
theorem dX5_copyFrom_1 : decode cX5_copyFrom 1 = .ok (.aload_n 1, 1) := by decide +kernel
theorem dX5_copyFrom_2 : decode cX5_copyFrom 2 = .ok (.getfield 18, 3) := by decide +kernel
theorem dX5_copyFrom_5 : decode cX5_copyFrom 5 = .ok (.putfield 18, 3) := by decide +kernel
theorem dX5_copyFrom_8 : decode cX5_copyFrom 8 = .ok (.aload_n 0, 1) := by decide +kernel
theorem dX5_copyFrom_9 : decode cX5_copyFrom 9 = .ok (.aload_n 1, 1) := by decide +kernel
theorem dX5_copyFrom_10 : decode cX5_copyFrom 10 = .ok (.getfield 21, 3) := by decide +kernel
theorem dX5_copyFrom_13 : decode cX5_copyFrom 13 = .ok (.putfield 21, 3) := by decide +kernel
theorem dX5_copyFrom_16 : decode cX5_copyFrom 16 = .ok (.return_, 1) := by decide +kernel
theorem dX5_row_0 : decode cX5_row 0 = .ok (.aload_n 0, 1) := by decide +kernel
theorem dX5_row_1 : decode cX5_row 1 = .ok (.getfield 9, 3) := by decide +kernel
theorem dX5_row_4 : decode cX5_row 4 = .ok (.iload_n 1, 1) := by decide +kernel
theorem dX5_row_5 : decode cX5_row 5 = .ok (.ifCond .eq 8, 3) := by decide +kernel
theorem dX5_row_8 : decode cX5_row 8 = .ok (.bipush 10, 2) := by decide +kernel
theorem dX5_row_10 : decode cX5_row 10 = .ok (.goto 5, 3) := by decide +kernel
theorem dX5_row_13 : decode cX5_row 13 = .ok (.bipush 6, 2) := by decide +kernel
theorem dX5_row_15 : decode cX5_row 15 = .ok (.iadd, 1) := by decide +kernel
theorem dX5_row_16 : decode cX5_row 16 = .ok (.ireturn, 1) := by decide +kernel
theorem dX5_allows_0 : decode cX5_allows 0 = .ok (.aload_n 0, 1) := by decide +kernel
theorem dX5_allows_1 : decode cX5_allows 1 = .ok (.getfield 18, 3) := by decide +kernel
theorem dX5_allows_4 : decode cX5_allows 4 = .ok (.iload_n 1, 1) := by decide +kernel
theorem dX5_allows_5 : decode cX5_allows 5 = .ok (.iadd, 1) := by decide +kernel
theorem dX5_allows_6 : decode cX5_allows 6 = .ok (.iconst 0, 1) := by decide +kernel
theorem dX5_allows_7 : decode cX5_allows 7 = .ok (.aload_n 0, 1) := by decide +kernel
theorem dX5_allows_8 : decode cX5_allows 8 = .ok (.getfield 15, 3) := by decide +kernel
theorem dX5_allows_11 : decode cX5_allows 11 = .ok (.invokestatic 24, 3) := by decide +kernel
theorem dX5_allows_14 : decode cX5_allows 14 = .ok (.ireturn, 1) := by decide +kernel
theorem dX6_init_0 : decode cX6_init 0 = .ok (.aload_n 0, 1) := by decide +kernel
theorem dX6_init_1 : decode cX6_init 1 = .ok (.invokespecial 3, 3) := by decide +kernel
theorem dX6_init_4 : decode cX6_init 4 = .ok (.aload_n 0, 1) := by decide +kernel
theorem dX6_init_5 : decode cX6_init 5 = .ok (.new 9, 3) := by decide +kernel
theorem dX6_init_8 : decode cX6_init 8 = .ok (.dup, 1) := by decide +kernel
theorem dX6_init_9 : decode cX6_init 9 = .ok (.invokespecial 11, 3) := by decide +kernel
theorem dX6_init_12 : decode cX6_init 12 = .ok (.putfield 12, 3) := by decide +kernel
theorem dX6_init_15 : decode cX6_init 15 = .ok (.aload_n 0, 1) := by decide +kernel
theorem dX6_init_16 : decode cX6_init 16 = .ok (.iload_n 1, 1) := by decide +kernel
theorem dX6_init_17 : decode cX6_init 17 = .ok (.putfield 18, 3) := by decide +kernel
theorem dX6_init_20 : decode cX6_init 20 = .ok (.return_, 1) := by decide +kernel
theorem dX6_take_0 : decode cX6_take 0 = .ok (.aload_n 0, 1) := by decide +kernel
theorem dX6_take_1 : decode cX6_take 1 = .ok (.aload_n 0, 1) := by decide +kernel
theorem dX6_take_2 : decode cX6_take 2 = .ok (.getfield 22, 3) := by decide +kernel
theorem dX6_take_5 : decode cX6_take 5 = .ok (.ifCond .ne 7, 3) := by decide +kernel
theorem dX6_take_8 : decode cX6_take 8 = .ok (.iload_n 1, 1) := by decide +kernel
theorem dX6_take_9 : decode cX6_take 9 = .ok (.goto 11, 3) := by decide +kernel
theorem dX6_take_12 : decode cX6_take 12 = .ok (.aload_n 0, 1) := by decide +kernel
theorem dX6_take_13 : decode cX6_take 13 = .ok (.getfield 25, 3) := by decide +kernel
theorem dX6_take_16 : decode cX6_take 16 = .ok (.iload_n 1, 1) := by decide +kernel
theorem dX6_take_17 : decode cX6_take 17 = .ok (.invokestatic 28, 3) := by decide +kernel
theorem dX6_take_20 : decode cX6_take 20 = .ok (.putfield 25, 3) := by decide +kernel
theorem dX6_take_23 : decode cX6_take 23 = .ok (.aload_n 0, 1) := by decide +kernel
theorem dX6_take_24 : decode cX6_take 24 = .ok (.aload_n 0, 1) := by decide +kernel
theorem dX6_take_25 : decode cX6_take 25 = .ok (.getfield 22, 3) := by decide +kernel
theorem dX6_take_28 : decode cX6_take 28 = .ok (.ifCond .ne 7, 3) := by decide +kernel
theorem dX6_take_31 : decode cX6_take 31 = .ok (.iload_n 1, 1) := by decide +kernel
theorem dX6_take_32 : decode cX6_take 32 = .ok (.goto 11, 3) := by decide +kernel
theorem dX6_take_35 : decode cX6_take 35 = .ok (.aload_n 0, 1) := by decide +kernel
theorem dX6_take_36 : decode cX6_take 36 = .ok (.getfield 34, 3) := by decide +kernel
theorem dX6_take_39 : decode cX6_take 39 = .ok (.iload_n 1, 1) := by decide +kernel
theorem dX6_take_40 : decode cX6_take 40 = .ok (.invokestatic 37, 3) := by decide +kernel
theorem dX6_take_43 : decode cX6_take 43 = .ok (.putfield 34, 3) := by decide +kernel
theorem dX6_take_46 : decode cX6_take 46 = .ok (.aload_n 0, 1) := by decide +kernel
theorem dX6_take_47 : decode cX6_take 47 = .ok (.iload_n 1, 1) := by decide +kernel
theorem dX6_take_48 : decode cX6_take 48 = .ok (.putfield 40, 3) := by decide +kernel
theorem dX6_take_51 : decode cX6_take 51 = .ok (.aload_n 0, 1) := by decide +kernel
theorem dX6_take_52 : decode cX6_take 52 = .ok (.dup, 1) := by decide +kernel
theorem dX6_take_53 : decode cX6_take 53 = .ok (.getfield 43, 3) := by decide +kernel
theorem dX6_take_56 : decode cX6_take 56 = .ok (.iload_n 1, 1) := by decide +kernel
theorem dX6_take_57 : decode cX6_take 57 = .ok (.iadd, 1) := by decide +kernel
theorem dX6_take_58 : decode cX6_take 58 = .ok (.putfield 43, 3) := by decide +kernel
theorem dX6_take_61 : decode cX6_take 61 = .ok (.aload_n 0, 1) := by decide +kernel
theorem dX6_take_62 : decode cX6_take 62 = .ok (.dup, 1) := by decide +kernel
theorem dX6_take_63 : decode cX6_take 63 = .ok (.getfield 22, 3) := by decide +kernel
theorem dX6_take_66 : decode cX6_take 66 = .ok (.iconst 1, 1) := by decide +kernel
theorem dX6_take_67 : decode cX6_take 67 = .ok (.iadd, 1) := by decide +kernel
theorem dX6_take_68 : decode cX6_take 68 = .ok (.putfield 22, 3) := by decide +kernel
theorem dX6_take_71 : decode cX6_take 71 = .ok (.aload_n 0, 1) := by decide +kernel
theorem dX6_take_72 : decode cX6_take 72 = .ok (.dup, 1) := by decide +kernel
theorem dX6_take_73 : decode cX6_take 73 = .ok (.getfield 46, 3) := by decide +kernel
theorem dX6_take_76 : decode cX6_take 76 = .ok (.iconst 1, 1) := by decide +kernel
theorem dX6_take_77 : decode cX6_take 77 = .ok (.iadd, 1) := by decide +kernel
theorem dX6_take_78 : decode cX6_take 78 = .ok (.putfield 46, 3) := by decide +kernel
theorem dX6_take_81 : decode cX6_take 81 = .ok (.aload_n 0, 1) := by decide +kernel
theorem dX6_take_82 : decode cX6_take 82 = .ok (.dup, 1) := by decide +kernel
theorem dX6_take_83 : decode cX6_take 83 = .ok (.getfield 49, 3) := by decide +kernel
theorem dX6_take_86 : decode cX6_take 86 = .ok (.iload_n 1, 1) := by decide +kernel
theorem dX6_take_87 : decode cX6_take 87 = .ok (.iadd, 1) := by decide +kernel
theorem dX6_take_88 : decode cX6_take 88 = .ok (.putfield 49, 3) := by decide +kernel
theorem dX6_take_91 : decode cX6_take 91 = .ok (.aload_n 0, 1) := by decide +kernel
theorem dX6_take_92 : decode cX6_take 92 = .ok (.getfield 46, 3) := by decide +kernel
theorem dX6_take_95 : decode cX6_take 95 = .ok (.aload_n 0, 1) := by decide +kernel
theorem dX6_take_96 : decode cX6_take 96 = .ok (.getfield 18, 3) := by decide +kernel
theorem dX6_take_99 : decode cX6_take 99 = .ok (.if_icmp .lt 21, 3) := by decide +kernel
theorem dX6_take_102 : decode cX6_take 102 = .ok (.aload_n 0, 1) := by decide +kernel
theorem dX6_take_103 : decode cX6_take 103 = .ok (.aload_n 0, 1) := by decide +kernel
theorem dX6_take_104 : decode cX6_take 104 = .ok (.getfield 49, 3) := by decide +kernel
theorem dX6_take_107 : decode cX6_take 107 = .ok (.invokevirtual 52, 3) := by decide +kernel
theorem dX6_take_110 : decode cX6_take 110 = .ok (.aload_n 0, 1) := by decide +kernel
theorem dX6_take_111 : decode cX6_take 111 = .ok (.iconst 0, 1) := by decide +kernel
theorem dX6_take_112 : decode cX6_take 112 = .ok (.putfield 46, 3) := by decide +kernel
theorem dX6_take_115 : decode cX6_take 115 = .ok (.aload_n 0, 1) := by decide +kernel
theorem dX6_take_116 : decode cX6_take 116 = .ok (.iconst 0, 1) := by decide +kernel
theorem dX6_take_117 : decode cX6_take 117 = .ok (.putfield 49, 3) := by decide +kernel
theorem dX6_take_120 : decode cX6_take 120 = .ok (.return_, 1) := by decide +kernel
theorem dX6_keep_0 : decode cX6_keep 0 = .ok (.aload_n 0, 1) := by decide +kernel
theorem dX6_keep_1 : decode cX6_keep 1 = .ok (.getfield 56, 3) := by decide +kernel
theorem dX6_keep_4 : decode cX6_keep 4 = .ok (.ldc 59, 2) := by decide +kernel
theorem dX6_keep_6 : decode cX6_keep 6 = .ok (.if_icmp .lt 4, 3) := by decide +kernel
theorem dX6_keep_9 : decode cX6_keep 9 = .ok (.return_, 1) := by decide +kernel
theorem dX6_keep_10 : decode cX6_keep 10 = .ok (.aload_n 0, 1) := by decide +kernel
theorem dX6_keep_11 : decode cX6_keep 11 = .ok (.getfield 12, 3) := by decide +kernel
theorem dX6_keep_14 : decode cX6_keep 14 = .ok (.invokevirtual 60, 3) := by decide +kernel
theorem dX6_keep_17 : decode cX6_keep 17 = .ok (.ifCond .ne 21, 3) := by decide +kernel
theorem dX6_keep_20 : decode cX6_keep 20 = .ok (.aload_n 0, 1) := by decide +kernel
theorem dX6_keep_21 : decode cX6_keep 21 = .ok (.getfield 56, 3) := by decide +kernel
theorem dX6_keep_24 : decode cX6_keep 24 = .ok (.aload_n 0, 1) := by decide +kernel
theorem dX6_keep_25 : decode cX6_keep 25 = .ok (.getfield 12, 3) := by decide +kernel
theorem dX6_keep_28 : decode cX6_keep 28 = .ok (.invokevirtual 64, 3) := by decide +kernel
theorem dX6_keep_31 : decode cX6_keep 31 = .ok (.sipush 512, 3) := by decide +kernel
theorem dX6_keep_34 : decode cX6_keep 34 = .ok (.imul, 1) := by decide +kernel
theorem dX6_keep_35 : decode cX6_keep 35 = .ok (.if_icmp .lt 18, 3) := by decide +kernel
theorem dX6_keep_38 : decode cX6_keep 38 = .ok (.aload_n 0, 1) := by decide +kernel
theorem dX6_keep_39 : decode cX6_keep 39 = .ok (.getfield 12, 3) := by decide +kernel
theorem dX6_keep_42 : decode cX6_keep 42 = .ok (.new 68, 3) := by decide +kernel
theorem dX6_keep_45 : decode cX6_keep 45 = .ok (.dup, 1) := by decide +kernel
theorem dX6_keep_46 : decode cX6_keep 46 = .ok (.invokespecial 70, 3) := by decide +kernel
theorem dX6_keep_49 : decode cX6_keep 49 = .ok (.invokevirtual 71, 3) := by decide +kernel
theorem dX6_keep_52 : decode cX6_keep 52 = .ok (.pop, 1) := by decide +kernel
theorem dX6_keep_53 : decode cX6_keep 53 = .ok (.aload_n 0, 1) := by decide +kernel
theorem dX6_keep_54 : decode cX6_keep 54 = .ok (.getfield 12, 3) := by decide +kernel
theorem dX6_keep_57 : decode cX6_keep 57 = .ok (.aload_n 0, 1) := by decide +kernel
theorem dX6_keep_58 : decode cX6_keep 58 = .ok (.getfield 12, 3) := by decide +kernel
theorem dX6_keep_61 : decode cX6_keep 61 = .ok (.invokevirtual 64, 3) := by decide +kernel
theorem dX6_keep_64 : decode cX6_keep 64 = .ok (.iconst 1, 1) := by decide +kernel
theorem dX6_keep_65 : decode cX6_keep 65 = .ok (.isub, 1) := by decide +kernel
theorem dX6_keep_66 : decode cX6_keep 66 = .ok (.invokevirtual 75, 3) := by decide +kernel
theorem dX6_keep_69 : decode cX6_keep 69 = .ok (.checkcast 68, 3) := by decide +kernel
theorem dX6_keep_72 : decode cX6_keep 72 = .ok (.getfield 79, 3) := by decide +kernel
theorem dX6_keep_75 : decode cX6_keep 75 = .ok (.aload_n 0, 1) := by decide +kernel
theorem dX6_keep_76 : decode cX6_keep 76 = .ok (.getfield 56, 3) := by decide +kernel
theorem dX6_keep_79 : decode cX6_keep 79 = .ok (.sipush 512, 3) := by decide +kernel
theorem dX6_keep_82 : decode cX6_keep 82 = .ok (.irem, 1) := by decide +kernel
theorem dX6_keep_83 : decode cX6_keep 83 = .ok (.iload_n 1, 1) := by decide +kernel
theorem dX6_keep_84 : decode cX6_keep 84 = .ok (.invokestatic 83, 3) := by decide +kernel
theorem dX6_keep_87 : decode cX6_keep 87 = .ok (.aload_n 0, 1) := by decide +kernel
theorem dX6_keep_88 : decode cX6_keep 88 = .ok (.dup, 1) := by decide +kernel
theorem dX6_keep_89 : decode cX6_keep 89 = .ok (.getfield 56, 3) := by decide +kernel
theorem dX6_keep_92 : decode cX6_keep 92 = .ok (.iconst 1, 1) := by decide +kernel
theorem dX6_keep_93 : decode cX6_keep 93 = .ok (.iadd, 1) := by decide +kernel
theorem dX6_keep_94 : decode cX6_keep 94 = .ok (.putfield 56, 3) := by decide +kernel
theorem dX6_keep_97 : decode cX6_keep 97 = .ok (.return_, 1) := by decide +kernel
theorem dX6_sumAt_0 : decode cX6_sumAt 0 = .ok (.iload_n 1, 1) := by decide +kernel
theorem dX6_sumAt_1 : decode cX6_sumAt 1 = .ok (.sipush 512, 3) := by decide +kernel
theorem dX6_sumAt_4 : decode cX6_sumAt 4 = .ok (.idiv, 1) := by decide +kernel
theorem dX6_sumAt_5 : decode cX6_sumAt 5 = .ok (.istore_n 2, 1) := by decide +kernel
theorem dX6_sumAt_6 : decode cX6_sumAt 6 = .ok (.iload_n 2, 1) := by decide +kernel
theorem dX6_sumAt_7 : decode cX6_sumAt 7 = .ok (.ifCond .lt 39, 3) := by decide +kernel
theorem dX6_sumAt_10 : decode cX6_sumAt 10 = .ok (.iload_n 2, 1) := by decide +kernel
theorem dX6_sumAt_11 : decode cX6_sumAt 11 = .ok (.aload_n 0, 1) := by decide +kernel
theorem dX6_sumAt_12 : decode cX6_sumAt 12 = .ok (.getfield 12, 3) := by decide +kernel
theorem dX6_sumAt_15 : decode cX6_sumAt 15 = .ok (.invokevirtual 64, 3) := by decide +kernel
theorem dX6_sumAt_18 : decode cX6_sumAt 18 = .ok (.if_icmp .ge 28, 3) := by decide +kernel
theorem dX6_sumAt_21 : decode cX6_sumAt 21 = .ok (.aload_n 0, 1) := by decide +kernel
theorem dX6_sumAt_22 : decode cX6_sumAt 22 = .ok (.getfield 12, 3) := by decide +kernel
theorem dX6_sumAt_25 : decode cX6_sumAt 25 = .ok (.iload_n 2, 1) := by decide +kernel
theorem dX6_sumAt_26 : decode cX6_sumAt 26 = .ok (.invokevirtual 75, 3) := by decide +kernel
theorem dX6_sumAt_29 : decode cX6_sumAt 29 = .ok (.checkcast 68, 3) := by decide +kernel
theorem dX6_sumAt_32 : decode cX6_sumAt 32 = .ok (.getfield 79, 3) := by decide +kernel
theorem dX6_sumAt_35 : decode cX6_sumAt 35 = .ok (.iload_n 1, 1) := by decide +kernel
theorem dX6_sumAt_36 : decode cX6_sumAt 36 = .ok (.sipush 512, 3) := by decide +kernel
theorem dX6_sumAt_39 : decode cX6_sumAt 39 = .ok (.irem, 1) := by decide +kernel
theorem dX6_sumAt_40 : decode cX6_sumAt 40 = .ok (.invokestatic 87, 3) := by decide +kernel
theorem dX6_sumAt_43 : decode cX6_sumAt 43 = .ok (.goto 4, 3) := by decide +kernel
theorem dX6_sumAt_46 : decode cX6_sumAt 46 = .ok (.iconst 0, 1) := by decide +kernel
theorem dX6_sumAt_47 : decode cX6_sumAt 47 = .ok (.ireturn, 1) := by decide +kernel
theorem dX6_variance_0 : decode cX6_variance 0 = .ok (.aload_n 0, 1) := by decide +kernel
theorem dX6_variance_1 : decode cX6_variance 1 = .ok (.getfield 56, 3) := by decide +kernel
theorem dX6_variance_4 : decode cX6_variance 4 = .ok (.i2l, 1) := by decide +kernel
theorem dX6_variance_5 : decode cX6_variance 5 = .ok (.lstore_n 1, 1) := by decide +kernel
theorem dX6_variance_6 : decode cX6_variance 6 = .ok (.lload_n 1, 1) := by decide +kernel
theorem dX6_variance_7 : decode cX6_variance 7 = .ok (.ldc2_w 91, 3) := by decide +kernel
theorem dX6_variance_10 : decode cX6_variance 10 = .ok (.lcmp, 1) := by decide +kernel
theorem dX6_variance_11 : decode cX6_variance 11 = .ok (.ifCond .ge 5, 3) := by decide +kernel
theorem dX6_variance_14 : decode cX6_variance 14 = .ok (.dconst 0, 1) := by decide +kernel
theorem dX6_variance_15 : decode cX6_variance 15 = .ok (.dreturn, 1) := by decide +kernel
theorem dX6_variance_16 : decode cX6_variance 16 = .ok (.lconst 0, 1) := by decide +kernel
theorem dX6_variance_17 : decode cX6_variance 17 = .ok (.lstore_n 3, 1) := by decide +kernel
theorem dX6_variance_18 : decode cX6_variance 18 = .ok (.lconst 0, 1) := by decide +kernel
theorem dX6_variance_19 : decode cX6_variance 19 = .ok (.lstore 5, 2) := by decide +kernel
theorem dX6_variance_21 : decode cX6_variance 21 = .ok (.lconst 0, 1) := by decide +kernel
theorem dX6_variance_22 : decode cX6_variance 22 = .ok (.lstore 7, 2) := by decide +kernel
theorem dX6_variance_24 : decode cX6_variance 24 = .ok (.iconst 0, 1) := by decide +kernel
theorem dX6_variance_25 : decode cX6_variance 25 = .ok (.istore 9, 2) := by decide +kernel
theorem dX6_variance_27 : decode cX6_variance 27 = .ok (.iload 9, 2) := by decide +kernel
theorem dX6_variance_29 : decode cX6_variance 29 = .ok (.aload_n 0, 1) := by decide +kernel
theorem dX6_variance_30 : decode cX6_variance 30 = .ok (.getfield 56, 3) := by decide +kernel
theorem dX6_variance_33 : decode cX6_variance 33 = .ok (.if_icmp .ge 52, 3) := by decide +kernel
theorem dX6_variance_36 : decode cX6_variance 36 = .ok (.aload_n 0, 1) := by decide +kernel
theorem dX6_variance_37 : decode cX6_variance 37 = .ok (.iload 9, 2) := by decide +kernel
theorem dX6_variance_39 : decode cX6_variance 39 = .ok (.invokevirtual 93, 3) := by decide +kernel
theorem dX6_variance_42 : decode cX6_variance 42 = .ok (.i2l, 1) := by decide +kernel
theorem dX6_variance_43 : decode cX6_variance 43 = .ok (.lstore 10, 2) := by decide +kernel
theorem dX6_variance_45 : decode cX6_variance 45 = .ok (.lload_n 3, 1) := by decide +kernel
theorem dX6_variance_46 : decode cX6_variance 46 = .ok (.lload 10, 2) := by decide +kernel
theorem dX6_variance_48 : decode cX6_variance 48 = .ok (.ladd, 1) := by decide +kernel
theorem dX6_variance_49 : decode cX6_variance 49 = .ok (.lstore_n 3, 1) := by decide +kernel
theorem dX6_variance_50 : decode cX6_variance 50 = .ok (.lload 7, 2) := by decide +kernel
theorem dX6_variance_52 : decode cX6_variance 52 = .ok (.lload 10, 2) := by decide +kernel
theorem dX6_variance_54 : decode cX6_variance 54 = .ok (.lload 10, 2) := by decide +kernel
theorem dX6_variance_56 : decode cX6_variance 56 = .ok (.lmul, 1) := by decide +kernel
theorem dX6_variance_57 : decode cX6_variance 57 = .ok (.ladd, 1) := by decide +kernel
theorem dX6_variance_58 : decode cX6_variance 58 = .ok (.lstore 7, 2) := by decide +kernel
theorem dX6_variance_60 : decode cX6_variance 60 = .ok (.lload 5, 2) := by decide +kernel
theorem dX6_variance_62 : decode cX6_variance 62 = .ok (.lload 7, 2) := by decide +kernel
theorem dX6_variance_64 : decode cX6_variance 64 = .ok (.bipush 40, 2) := by decide +kernel
theorem dX6_variance_66 : decode cX6_variance 66 = .ok (.lshr, 1) := by decide +kernel
theorem dX6_variance_67 : decode cX6_variance 67 = .ok (.ladd, 1) := by decide +kernel
theorem dX6_variance_68 : decode cX6_variance 68 = .ok (.lstore 5, 2) := by decide +kernel
theorem dX6_variance_70 : decode cX6_variance 70 = .ok (.lload 7, 2) := by decide +kernel
theorem dX6_variance_72 : decode cX6_variance 72 = .ok (.bipush 40, 2) := by decide +kernel
theorem dX6_variance_74 : decode cX6_variance 74 = .ok (.invokestatic 97, 3) := by decide +kernel
theorem dX6_variance_77 : decode cX6_variance 77 = .ok (.lstore 7, 2) := by decide +kernel
theorem dX6_variance_79 : decode cX6_variance 79 = .ok (.iinc 9 1, 3) := by decide +kernel
theorem dX6_variance_82 : decode cX6_variance 82 = .ok (.goto (-55), 3) := by decide +kernel
theorem dX6_variance_85 : decode cX6_variance 85 = .ok (.lload_n 1, 1) := by decide +kernel
theorem dX6_variance_86 : decode cX6_variance 86 = .ok (.lload_n 1, 1) := by decide +kernel
theorem dX6_variance_87 : decode cX6_variance 87 = .ok (.lconst 1, 1) := by decide +kernel
theorem dX6_variance_88 : decode cX6_variance 88 = .ok (.lsub, 1) := by decide +kernel
theorem dX6_variance_89 : decode cX6_variance 89 = .ok (.lmul, 1) := by decide +kernel
theorem dX6_variance_90 : decode cX6_variance 90 = .ok (.aload_n 0, 1) := by decide +kernel
theorem dX6_variance_91 : decode cX6_variance 91 = .ok (.getfield 18, 3) := by decide +kernel
theorem dX6_variance_94 : decode cX6_variance 94 = .ok (.i2l, 1) := by decide +kernel
theorem dX6_variance_95 : decode cX6_variance 95 = .ok (.lmul, 1) := by decide +kernel
theorem dX6_variance_96 : decode cX6_variance 96 = .ok (.aload_n 0, 1) := by decide +kernel
theorem dX6_variance_97 : decode cX6_variance 97 = .ok (.getfield 18, 3) := by decide +kernel
theorem dX6_variance_100 : decode cX6_variance 100 = .ok (.i2l, 1) := by decide +kernel
theorem dX6_variance_101 : decode cX6_variance 101 = .ok (.lmul, 1) := by decide +kernel
theorem dX6_variance_102 : decode cX6_variance 102 = .ok (.lstore 9, 2) := by decide +kernel
theorem dX6_variance_104 : decode cX6_variance 104 = .ok (.lload 9, 2) := by decide +kernel
theorem dX6_variance_106 : decode cX6_variance 106 = .ok (.lconst 0, 1) := by decide +kernel
theorem dX6_variance_107 : decode cX6_variance 107 = .ok (.lcmp, 1) := by decide +kernel
theorem dX6_variance_108 : decode cX6_variance 108 = .ok (.ifCond .le 19, 3) := by decide +kernel
theorem dX6_variance_111 : decode cX6_variance 111 = .ok (.lload_n 1, 1) := by decide +kernel
theorem dX6_variance_112 : decode cX6_variance 112 = .ok (.lload_n 3, 1) := by decide +kernel
theorem dX6_variance_113 : decode cX6_variance 113 = .ok (.lload 5, 2) := by decide +kernel
theorem dX6_variance_115 : decode cX6_variance 115 = .ok (.lload 7, 2) := by decide +kernel
theorem dX6_variance_117 : decode cX6_variance 117 = .ok (.invokestatic 101, 3) := by decide +kernel
theorem dX6_variance_120 : decode cX6_variance 120 = .ok (.lload 9, 2) := by decide +kernel
theorem dX6_variance_122 : decode cX6_variance 122 = .ok (.l2d, 1) := by decide +kernel
theorem dX6_variance_123 : decode cX6_variance 123 = .ok (.ddiv, 1) := by decide +kernel
theorem dX6_variance_124 : decode cX6_variance 124 = .ok (.goto 4, 3) := by decide +kernel
theorem dX6_variance_127 : decode cX6_variance 127 = .ok (.dconst 0, 1) := by decide +kernel
theorem dX6_variance_128 : decode cX6_variance 128 = .ok (.dreturn, 1) := by decide +kernel
theorem dX6_overBar_0 : decode cX6_overBar 0 = .ok (.lload_n 2, 1) := by decide +kernel
theorem dX6_overBar_1 : decode cX6_overBar 1 = .ok (.bipush 20, 2) := by decide +kernel
theorem dX6_overBar_3 : decode cX6_overBar 3 = .ok (.lshr, 1) := by decide +kernel
theorem dX6_overBar_4 : decode cX6_overBar 4 = .ok (.lstore 8, 2) := by decide +kernel
theorem dX6_overBar_6 : decode cX6_overBar 6 = .ok (.lload_n 2, 1) := by decide +kernel
theorem dX6_overBar_7 : decode cX6_overBar 7 = .ok (.bipush 20, 2) := by decide +kernel
theorem dX6_overBar_9 : decode cX6_overBar 9 = .ok (.invokestatic 97, 3) := by decide +kernel
theorem dX6_overBar_12 : decode cX6_overBar 12 = .ok (.lstore 10, 2) := by decide +kernel
theorem dX6_overBar_14 : decode cX6_overBar 14 = .ok (.ldc2_w 91, 3) := by decide +kernel
theorem dX6_overBar_17 : decode cX6_overBar 17 = .ok (.lload 8, 2) := by decide +kernel
theorem dX6_overBar_19 : decode cX6_overBar 19 = .ok (.lmul, 1) := by decide +kernel
theorem dX6_overBar_20 : decode cX6_overBar 20 = .ok (.lload 10, 2) := by decide +kernel
theorem dX6_overBar_22 : decode cX6_overBar 22 = .ok (.lmul, 1) := by decide +kernel
theorem dX6_overBar_23 : decode cX6_overBar 23 = .ok (.lstore 12, 2) := by decide +kernel
theorem dX6_overBar_25 : decode cX6_overBar 25 = .ok (.lload_n 0, 1) := by decide +kernel
theorem dX6_overBar_26 : decode cX6_overBar 26 = .ok (.lload 4, 2) := by decide +kernel
theorem dX6_overBar_28 : decode cX6_overBar 28 = .ok (.lmul, 1) := by decide +kernel
theorem dX6_overBar_29 : decode cX6_overBar 29 = .ok (.lload 8, 2) := by decide +kernel
theorem dX6_overBar_31 : decode cX6_overBar 31 = .ok (.lload 8, 2) := by decide +kernel
theorem dX6_overBar_33 : decode cX6_overBar 33 = .ok (.lmul, 1) := by decide +kernel
theorem dX6_overBar_34 : decode cX6_overBar 34 = .ok (.lsub, 1) := by decide +kernel
theorem dX6_overBar_35 : decode cX6_overBar 35 = .ok (.lload 12, 2) := by decide +kernel
theorem dX6_overBar_37 : decode cX6_overBar 37 = .ok (.bipush 20, 2) := by decide +kernel
theorem dX6_overBar_39 : decode cX6_overBar 39 = .ok (.lshr, 1) := by decide +kernel
theorem dX6_overBar_40 : decode cX6_overBar 40 = .ok (.lsub, 1) := by decide +kernel
theorem dX6_overBar_41 : decode cX6_overBar 41 = .ok (.lstore 14, 2) := by decide +kernel
theorem dX6_overBar_43 : decode cX6_overBar 43 = .ok (.lload_n 0, 1) := by decide +kernel
theorem dX6_overBar_44 : decode cX6_overBar 44 = .ok (.lload 6, 2) := by decide +kernel
theorem dX6_overBar_46 : decode cX6_overBar 46 = .ok (.lmul, 1) := by decide +kernel
theorem dX6_overBar_47 : decode cX6_overBar 47 = .ok (.lload 10, 2) := by decide +kernel
theorem dX6_overBar_49 : decode cX6_overBar 49 = .ok (.lload 10, 2) := by decide +kernel
theorem dX6_overBar_51 : decode cX6_overBar 51 = .ok (.lmul, 1) := by decide +kernel
theorem dX6_overBar_52 : decode cX6_overBar 52 = .ok (.lsub, 1) := by decide +kernel
theorem dX6_overBar_53 : decode cX6_overBar 53 = .ok (.lload 12, 2) := by decide +kernel
theorem dX6_overBar_55 : decode cX6_overBar 55 = .ok (.bipush 20, 2) := by decide +kernel
theorem dX6_overBar_57 : decode cX6_overBar 57 = .ok (.invokestatic 97, 3) := by decide +kernel
theorem dX6_overBar_60 : decode cX6_overBar 60 = .ok (.bipush 20, 2) := by decide +kernel
theorem dX6_overBar_62 : decode cX6_overBar 62 = .ok (.lshl, 1) := by decide +kernel
theorem dX6_overBar_63 : decode cX6_overBar 63 = .ok (.lsub, 1) := by decide +kernel
theorem dX6_overBar_64 : decode cX6_overBar 64 = .ok (.lstore 16, 2) := by decide +kernel
theorem dX6_overBar_66 : decode cX6_overBar 66 = .ok (.lload 14, 2) := by decide +kernel
theorem dX6_overBar_68 : decode cX6_overBar 68 = .ok (.lload 16, 2) := by decide +kernel
theorem dX6_overBar_70 : decode cX6_overBar 70 = .ok (.bipush 40, 2) := by decide +kernel
theorem dX6_overBar_72 : decode cX6_overBar 72 = .ok (.lshr, 1) := by decide +kernel
theorem dX6_overBar_73 : decode cX6_overBar 73 = .ok (.ladd, 1) := by decide +kernel
theorem dX6_overBar_74 : decode cX6_overBar 74 = .ok (.lstore 14, 2) := by decide +kernel
theorem dX6_overBar_76 : decode cX6_overBar 76 = .ok (.lload 16, 2) := by decide +kernel
theorem dX6_overBar_78 : decode cX6_overBar 78 = .ok (.bipush 40, 2) := by decide +kernel
theorem dX6_overBar_80 : decode cX6_overBar 80 = .ok (.invokestatic 97, 3) := by decide +kernel
theorem dX6_overBar_83 : decode cX6_overBar 83 = .ok (.lstore 16, 2) := by decide +kernel
theorem dX6_overBar_85 : decode cX6_overBar 85 = .ok (.lload 14, 2) := by decide +kernel
theorem dX6_overBar_87 : decode cX6_overBar 87 = .ok (.l2d, 1) := by decide +kernel
theorem dX6_overBar_88 : decode cX6_overBar 88 = .ok (.ldc2_w 105, 3) := by decide +kernel
theorem dX6_overBar_91 : decode cX6_overBar 91 = .ok (.dmul, 1) := by decide +kernel
theorem dX6_overBar_92 : decode cX6_overBar 92 = .ok (.lload 16, 2) := by decide +kernel
theorem dX6_overBar_94 : decode cX6_overBar 94 = .ok (.l2d, 1) := by decide +kernel
theorem dX6_overBar_95 : decode cX6_overBar 95 = .ok (.dadd, 1) := by decide +kernel
theorem dX6_overBar_96 : decode cX6_overBar 96 = .ok (.dreturn, 1) := by decide +kernel
theorem dX6_lowPart_0 : decode cX6_lowPart 0 = .ok (.lload_n 0, 1) := by decide +kernel
theorem dX6_lowPart_1 : decode cX6_lowPart 1 = .ok (.lconst 1, 1) := by decide +kernel
theorem dX6_lowPart_2 : decode cX6_lowPart 2 = .ok (.iload_n 2, 1) := by decide +kernel
theorem dX6_lowPart_3 : decode cX6_lowPart 3 = .ok (.lshl, 1) := by decide +kernel
theorem dX6_lowPart_4 : decode cX6_lowPart 4 = .ok (.lconst 1, 1) := by decide +kernel
theorem dX6_lowPart_5 : decode cX6_lowPart 5 = .ok (.lsub, 1) := by decide +kernel
theorem dX6_lowPart_6 : decode cX6_lowPart 6 = .ok (.land, 1) := by decide +kernel
theorem dX6_lowPart_7 : decode cX6_lowPart 7 = .ok (.lreturn, 1) := by decide +kernel
theorem dX7_init_0 : decode cX7_init 0 = .ok (.aload_n 0, 1) := by decide +kernel
theorem dX7_init_1 : decode cX7_init 1 = .ok (.invokespecial 3, 3) := by decide +kernel
theorem dX7_init_4 : decode cX7_init 4 = .ok (.aload_n 0, 1) := by decide +kernel
theorem dX7_init_5 : decode cX7_init 5 = .ok (.new 9, 3) := by decide +kernel
theorem dX7_init_8 : decode cX7_init 8 = .ok (.dup, 1) := by decide +kernel
theorem dX7_init_9 : decode cX7_init 9 = .ok (.invokespecial 11, 3) := by decide +kernel
theorem dX7_init_12 : decode cX7_init 12 = .ok (.putfield 12, 3) := by decide +kernel
theorem dX7_init_15 : decode cX7_init 15 = .ok (.aload_n 0, 1) := by decide +kernel
theorem dX7_init_16 : decode cX7_init 16 = .ok (.new 9, 3) := by decide +kernel
theorem dX7_init_19 : decode cX7_init 19 = .ok (.dup, 1) := by decide +kernel
theorem dX7_init_20 : decode cX7_init 20 = .ok (.invokespecial 11, 3) := by decide +kernel
theorem dX7_init_23 : decode cX7_init 23 = .ok (.putfield 18, 3) := by decide +kernel
theorem dX7_init_26 : decode cX7_init 26 = .ok (.aload_n 0, 1) := by decide +kernel
theorem dX7_init_27 : decode cX7_init 27 = .ok (.bipush 24, 2) := by decide +kernel
theorem dX7_init_29 : decode cX7_init 29 = .ok (.anewarray 21, 3) := by decide +kernel
theorem dX7_init_32 : decode cX7_init 32 = .ok (.putfield 23, 3) := by decide +kernel
theorem dX7_init_35 : decode cX7_init 35 = .ok (.aload_n 0, 1) := by decide +kernel
theorem dX7_init_36 : decode cX7_init 36 = .ok (.aload_n 1, 1) := by decide +kernel
theorem dX7_init_37 : decode cX7_init 37 = .ok (.putfield 27, 3) := by decide +kernel
theorem dX7_init_40 : decode cX7_init 40 = .ok (.aload_n 0, 1) := by decide +kernel
theorem dX7_init_41 : decode cX7_init 41 = .ok (.aload_n 2, 1) := by decide +kernel
theorem dX7_init_42 : decode cX7_init 42 = .ok (.putfield 30, 3) := by decide +kernel
theorem dX7_init_45 : decode cX7_init 45 = .ok (.iconst 0, 1) := by decide +kernel
theorem dX7_init_46 : decode cX7_init 46 = .ok (.istore_n 3, 1) := by decide +kernel
theorem dX7_init_47 : decode cX7_init 47 = .ok (.iload_n 3, 1) := by decide +kernel
theorem dX7_init_48 : decode cX7_init 48 = .ok (.aload_n 0, 1) := by decide +kernel
theorem dX7_init_49 : decode cX7_init 49 = .ok (.getfield 23, 3) := by decide +kernel
theorem dX7_init_52 : decode cX7_init 52 = .ok (.arraylength, 1) := by decide +kernel
theorem dX7_init_53 : decode cX7_init 53 = .ok (.if_icmp .ge 23, 3) := by decide +kernel
theorem dX7_init_56 : decode cX7_init 56 = .ok (.aload_n 0, 1) := by decide +kernel
theorem dX7_init_57 : decode cX7_init 57 = .ok (.getfield 23, 3) := by decide +kernel
theorem dX7_init_60 : decode cX7_init 60 = .ok (.iload_n 3, 1) := by decide +kernel
theorem dX7_init_61 : decode cX7_init 61 = .ok (.new 21, 3) := by decide +kernel
theorem dX7_init_64 : decode cX7_init 64 = .ok (.dup, 1) := by decide +kernel
theorem dX7_init_65 : decode cX7_init 65 = .ok (.iload_n 3, 1) := by decide +kernel
theorem dX7_init_66 : decode cX7_init 66 = .ok (.invokespecial 33, 3) := by decide +kernel
theorem dX7_init_69 : decode cX7_init 69 = .ok (.aastore, 1) := by decide +kernel
theorem dX7_init_70 : decode cX7_init 70 = .ok (.iinc 3 1, 3) := by decide +kernel
theorem dX7_init_73 : decode cX7_init 73 = .ok (.goto (-26), 3) := by decide +kernel
theorem dX7_init_76 : decode cX7_init 76 = .ok (.return_, 1) := by decide +kernel
theorem dX7_copyFrom_0 : decode cX7_copyFrom 0 = .ok (.aload_n 0, 1) := by decide +kernel
theorem dX7_copyFrom_1 : decode cX7_copyFrom 1 = .ok (.aload_n 1, 1) := by decide +kernel
theorem dX7_copyFrom_2 : decode cX7_copyFrom 2 = .ok (.getfield 36, 3) := by decide +kernel
theorem dX7_copyFrom_5 : decode cX7_copyFrom 5 = .ok (.putfield 36, 3) := by decide +kernel
theorem dX7_copyFrom_8 : decode cX7_copyFrom 8 = .ok (.aload_n 0, 1) := by decide +kernel
theorem dX7_copyFrom_9 : decode cX7_copyFrom 9 = .ok (.aload_n 1, 1) := by decide +kernel
theorem dX7_copyFrom_10 : decode cX7_copyFrom 10 = .ok (.getfield 40, 3) := by decide +kernel
theorem dX7_copyFrom_13 : decode cX7_copyFrom 13 = .ok (.putfield 40, 3) := by decide +kernel
theorem dX7_copyFrom_16 : decode cX7_copyFrom 16 = .ok (.aload_n 0, 1) := by decide +kernel
theorem dX7_copyFrom_17 : decode cX7_copyFrom 17 = .ok (.aload_n 1, 1) := by decide +kernel
theorem dX7_copyFrom_18 : decode cX7_copyFrom 18 = .ok (.getfield 43, 3) := by decide +kernel
theorem dX7_copyFrom_21 : decode cX7_copyFrom 21 = .ok (.putfield 43, 3) := by decide +kernel
theorem dX7_copyFrom_24 : decode cX7_copyFrom 24 = .ok (.aload_n 0, 1) := by decide +kernel
theorem dX7_copyFrom_25 : decode cX7_copyFrom 25 = .ok (.aload_n 1, 1) := by decide +kernel
theorem dX7_copyFrom_26 : decode cX7_copyFrom 26 = .ok (.getfield 46, 3) := by decide +kernel
theorem dX7_copyFrom_29 : decode cX7_copyFrom 29 = .ok (.putfield 46, 3) := by decide +kernel
theorem dX7_copyFrom_32 : decode cX7_copyFrom 32 = .ok (.aload_n 0, 1) := by decide +kernel
theorem dX7_copyFrom_33 : decode cX7_copyFrom 33 = .ok (.aload_n 1, 1) := by decide +kernel
theorem dX7_copyFrom_34 : decode cX7_copyFrom 34 = .ok (.getfield 49, 3) := by decide +kernel
theorem dX7_copyFrom_37 : decode cX7_copyFrom 37 = .ok (.putfield 49, 3) := by decide +kernel
theorem dX7_copyFrom_40 : decode cX7_copyFrom 40 = .ok (.iconst 0, 1) := by decide +kernel
theorem dX7_copyFrom_41 : decode cX7_copyFrom 41 = .ok (.istore_n 2, 1) := by decide +kernel
theorem dX7_copyFrom_42 : decode cX7_copyFrom 42 = .ok (.iload_n 2, 1) := by decide +kernel
theorem dX7_copyFrom_43 : decode cX7_copyFrom 43 = .ok (.aload_n 0, 1) := by decide +kernel
theorem dX7_copyFrom_44 : decode cX7_copyFrom 44 = .ok (.getfield 23, 3) := by decide +kernel
theorem dX7_copyFrom_47 : decode cX7_copyFrom 47 = .ok (.arraylength, 1) := by decide +kernel
theorem dX7_copyFrom_48 : decode cX7_copyFrom 48 = .ok (.if_icmp .ge 33, 3) := by decide +kernel
theorem dX7_copyFrom_51 : decode cX7_copyFrom 51 = .ok (.iload_n 2, 1) := by decide +kernel
theorem dX7_copyFrom_52 : decode cX7_copyFrom 52 = .ok (.aload_n 1, 1) := by decide +kernel
theorem dX7_copyFrom_53 : decode cX7_copyFrom 53 = .ok (.getfield 23, 3) := by decide +kernel
theorem dX7_copyFrom_56 : decode cX7_copyFrom 56 = .ok (.arraylength, 1) := by decide +kernel
theorem dX7_copyFrom_57 : decode cX7_copyFrom 57 = .ok (.if_icmp .ge 24, 3) := by decide +kernel
theorem dX7_copyFrom_60 : decode cX7_copyFrom 60 = .ok (.aload_n 0, 1) := by decide +kernel
theorem dX7_copyFrom_61 : decode cX7_copyFrom 61 = .ok (.getfield 23, 3) := by decide +kernel
theorem dX7_copyFrom_64 : decode cX7_copyFrom 64 = .ok (.iload_n 2, 1) := by decide +kernel
theorem dX7_copyFrom_65 : decode cX7_copyFrom 65 = .ok (.aaload, 1) := by decide +kernel
theorem dX7_copyFrom_66 : decode cX7_copyFrom 66 = .ok (.aload_n 1, 1) := by decide +kernel
theorem dX7_copyFrom_67 : decode cX7_copyFrom 67 = .ok (.getfield 23, 3) := by decide +kernel
theorem dX7_copyFrom_70 : decode cX7_copyFrom 70 = .ok (.iload_n 2, 1) := by decide +kernel
theorem dX7_copyFrom_71 : decode cX7_copyFrom 71 = .ok (.aaload, 1) := by decide +kernel
theorem dX7_copyFrom_72 : decode cX7_copyFrom 72 = .ok (.invokevirtual 52, 3) := by decide +kernel
theorem dX7_copyFrom_75 : decode cX7_copyFrom 75 = .ok (.iinc 2 1, 3) := by decide +kernel
theorem dX7_copyFrom_78 : decode cX7_copyFrom 78 = .ok (.goto (-36), 3) := by decide +kernel
theorem dX7_copyFrom_81 : decode cX7_copyFrom 81 = .ok (.iconst 0, 1) := by decide +kernel
theorem dX7_copyFrom_82 : decode cX7_copyFrom 82 = .ok (.istore_n 2, 1) := by decide +kernel
theorem dX7_copyFrom_83 : decode cX7_copyFrom 83 = .ok (.iload_n 2, 1) := by decide +kernel
theorem dX7_copyFrom_84 : decode cX7_copyFrom 84 = .ok (.aload_n 0, 1) := by decide +kernel
theorem dX7_copyFrom_85 : decode cX7_copyFrom 85 = .ok (.getfield 12, 3) := by decide +kernel
theorem dX7_copyFrom_88 : decode cX7_copyFrom 88 = .ok (.invokevirtual 56, 3) := by decide +kernel
theorem dX7_copyFrom_91 : decode cX7_copyFrom 91 = .ok (.if_icmp .ge 45, 3) := by decide +kernel
theorem dX7_copyFrom_94 : decode cX7_copyFrom 94 = .ok (.iload_n 2, 1) := by decide +kernel
theorem dX7_copyFrom_95 : decode cX7_copyFrom 95 = .ok (.aload_n 1, 1) := by decide +kernel
theorem dX7_copyFrom_96 : decode cX7_copyFrom 96 = .ok (.getfield 12, 3) := by decide +kernel
theorem dX7_copyFrom_99 : decode cX7_copyFrom 99 = .ok (.invokevirtual 56, 3) := by decide +kernel
theorem dX7_copyFrom_102 : decode cX7_copyFrom 102 = .ok (.if_icmp .ge 34, 3) := by decide +kernel
theorem dX7_copyFrom_105 : decode cX7_copyFrom 105 = .ok (.aload_n 0, 1) := by decide +kernel
theorem dX7_copyFrom_106 : decode cX7_copyFrom 106 = .ok (.getfield 12, 3) := by decide +kernel
theorem dX7_copyFrom_109 : decode cX7_copyFrom 109 = .ok (.iload_n 2, 1) := by decide +kernel
theorem dX7_copyFrom_110 : decode cX7_copyFrom 110 = .ok (.invokevirtual 60, 3) := by decide +kernel
theorem dX7_copyFrom_113 : decode cX7_copyFrom 113 = .ok (.checkcast 64, 3) := by decide +kernel
theorem dX7_copyFrom_116 : decode cX7_copyFrom 116 = .ok (.aload_n 1, 1) := by decide +kernel
theorem dX7_copyFrom_117 : decode cX7_copyFrom 117 = .ok (.getfield 12, 3) := by decide +kernel
theorem dX7_copyFrom_120 : decode cX7_copyFrom 120 = .ok (.iload_n 2, 1) := by decide +kernel
theorem dX7_copyFrom_121 : decode cX7_copyFrom 121 = .ok (.invokevirtual 60, 3) := by decide +kernel
theorem dX7_copyFrom_124 : decode cX7_copyFrom 124 = .ok (.checkcast 64, 3) := by decide +kernel
theorem dX7_copyFrom_127 : decode cX7_copyFrom 127 = .ok (.invokevirtual 66, 3) := by decide +kernel
theorem dX7_copyFrom_130 : decode cX7_copyFrom 130 = .ok (.iinc 2 1, 3) := by decide +kernel
theorem dX7_copyFrom_133 : decode cX7_copyFrom 133 = .ok (.goto (-50), 3) := by decide +kernel
theorem dX7_copyFrom_136 : decode cX7_copyFrom 136 = .ok (.iconst 0, 1) := by decide +kernel
theorem dX7_copyFrom_137 : decode cX7_copyFrom 137 = .ok (.istore_n 2, 1) := by decide +kernel
theorem dX7_copyFrom_138 : decode cX7_copyFrom 138 = .ok (.iload_n 2, 1) := by decide +kernel
theorem dX7_copyFrom_139 : decode cX7_copyFrom 139 = .ok (.aload_n 0, 1) := by decide +kernel
theorem dX7_copyFrom_140 : decode cX7_copyFrom 140 = .ok (.getfield 18, 3) := by decide +kernel
theorem dX7_copyFrom_143 : decode cX7_copyFrom 143 = .ok (.invokevirtual 56, 3) := by decide +kernel
theorem dX7_copyFrom_146 : decode cX7_copyFrom 146 = .ok (.if_icmp .ge 45, 3) := by decide +kernel
theorem dX7_copyFrom_149 : decode cX7_copyFrom 149 = .ok (.iload_n 2, 1) := by decide +kernel
theorem dX7_copyFrom_150 : decode cX7_copyFrom 150 = .ok (.aload_n 1, 1) := by decide +kernel
theorem dX7_copyFrom_151 : decode cX7_copyFrom 151 = .ok (.getfield 18, 3) := by decide +kernel
theorem dX7_copyFrom_154 : decode cX7_copyFrom 154 = .ok (.invokevirtual 56, 3) := by decide +kernel
theorem dX7_copyFrom_157 : decode cX7_copyFrom 157 = .ok (.if_icmp .ge 34, 3) := by decide +kernel
theorem dX7_copyFrom_160 : decode cX7_copyFrom 160 = .ok (.aload_n 0, 1) := by decide +kernel
theorem dX7_copyFrom_161 : decode cX7_copyFrom 161 = .ok (.getfield 18, 3) := by decide +kernel
theorem dX7_copyFrom_164 : decode cX7_copyFrom 164 = .ok (.iload_n 2, 1) := by decide +kernel
theorem dX7_copyFrom_165 : decode cX7_copyFrom 165 = .ok (.invokevirtual 60, 3) := by decide +kernel
theorem dX7_copyFrom_168 : decode cX7_copyFrom 168 = .ok (.checkcast 69, 3) := by decide +kernel
theorem dX7_copyFrom_171 : decode cX7_copyFrom 171 = .ok (.aload_n 1, 1) := by decide +kernel
theorem dX7_copyFrom_172 : decode cX7_copyFrom 172 = .ok (.getfield 18, 3) := by decide +kernel
theorem dX7_copyFrom_175 : decode cX7_copyFrom 175 = .ok (.iload_n 2, 1) := by decide +kernel
theorem dX7_copyFrom_176 : decode cX7_copyFrom 176 = .ok (.invokevirtual 60, 3) := by decide +kernel
theorem dX7_copyFrom_179 : decode cX7_copyFrom 179 = .ok (.checkcast 69, 3) := by decide +kernel
theorem dX7_copyFrom_182 : decode cX7_copyFrom 182 = .ok (.invokevirtual 71, 3) := by decide +kernel
theorem dX7_copyFrom_185 : decode cX7_copyFrom 185 = .ok (.iinc 2 1, 3) := by decide +kernel
theorem dX7_copyFrom_188 : decode cX7_copyFrom 188 = .ok (.goto (-50), 3) := by decide +kernel
theorem dX7_copyFrom_191 : decode cX7_copyFrom 191 = .ok (.return_, 1) := by decide +kernel
theorem dX7_resource_0 : decode cX7_resource 0 = .ok (.iload_n 1, 1) := by decide +kernel
theorem dX7_resource_1 : decode cX7_resource 1 = .ok (.ifCond .lt 28, 3) := by decide +kernel
theorem dX7_resource_4 : decode cX7_resource 4 = .ok (.iload_n 1, 1) := by decide +kernel
theorem dX7_resource_5 : decode cX7_resource 5 = .ok (.aload_n 0, 1) := by decide +kernel
theorem dX7_resource_6 : decode cX7_resource 6 = .ok (.getfield 12, 3) := by decide +kernel
theorem dX7_resource_9 : decode cX7_resource 9 = .ok (.invokevirtual 56, 3) := by decide +kernel
theorem dX7_resource_12 : decode cX7_resource 12 = .ok (.if_icmp .ge 17, 3) := by decide +kernel
theorem dX7_resource_15 : decode cX7_resource 15 = .ok (.aload_n 0, 1) := by decide +kernel
theorem dX7_resource_16 : decode cX7_resource 16 = .ok (.getfield 12, 3) := by decide +kernel
theorem dX7_resource_19 : decode cX7_resource 19 = .ok (.iload_n 1, 1) := by decide +kernel
theorem dX7_resource_20 : decode cX7_resource 20 = .ok (.invokevirtual 60, 3) := by decide +kernel
theorem dX7_resource_23 : decode cX7_resource 23 = .ok (.checkcast 64, 3) := by decide +kernel
theorem dX7_resource_26 : decode cX7_resource 26 = .ok (.goto 4, 3) := by decide +kernel
theorem dX7_resource_29 : decode cX7_resource 29 = .ok (.aconst_null, 1) := by decide +kernel
theorem dX7_resource_30 : decode cX7_resource 30 = .ok (.areturn, 1) := by decide +kernel
theorem dX7_store_0 : decode cX7_store 0 = .ok (.iload_n 1, 1) := by decide +kernel
theorem dX7_store_1 : decode cX7_store 1 = .ok (.ifCond .lt 28, 3) := by decide +kernel
theorem dX7_store_4 : decode cX7_store 4 = .ok (.iload_n 1, 1) := by decide +kernel
theorem dX7_store_5 : decode cX7_store 5 = .ok (.aload_n 0, 1) := by decide +kernel
theorem dX7_store_6 : decode cX7_store 6 = .ok (.getfield 18, 3) := by decide +kernel
theorem dX7_store_9 : decode cX7_store 9 = .ok (.invokevirtual 56, 3) := by decide +kernel
theorem dX7_store_12 : decode cX7_store 12 = .ok (.if_icmp .ge 17, 3) := by decide +kernel
theorem dX7_store_15 : decode cX7_store 15 = .ok (.aload_n 0, 1) := by decide +kernel
theorem dX7_store_16 : decode cX7_store 16 = .ok (.getfield 18, 3) := by decide +kernel
theorem dX7_store_19 : decode cX7_store 19 = .ok (.iload_n 1, 1) := by decide +kernel
theorem dX7_store_20 : decode cX7_store 20 = .ok (.invokevirtual 60, 3) := by decide +kernel
theorem dX7_store_23 : decode cX7_store 23 = .ok (.checkcast 69, 3) := by decide +kernel
theorem dX7_store_26 : decode cX7_store 26 = .ok (.goto 4, 3) := by decide +kernel
theorem dX7_store_29 : decode cX7_store 29 = .ok (.aconst_null, 1) := by decide +kernel
theorem dX7_store_30 : decode cX7_store 30 = .ok (.areturn, 1) := by decide +kernel
theorem dX7_tally_0 : decode cX7_tally 0 = .ok (.iload_n 1, 1) := by decide +kernel
theorem dX7_tally_1 : decode cX7_tally 1 = .ok (.ifCond .lt 28, 3) := by decide +kernel
theorem dX7_tally_4 : decode cX7_tally 4 = .ok (.iload_n 1, 1) := by decide +kernel
theorem dX7_tally_5 : decode cX7_tally 5 = .ok (.aload_n 0, 1) := by decide +kernel
theorem dX7_tally_6 : decode cX7_tally 6 = .ok (.getfield 30, 3) := by decide +kernel
theorem dX7_tally_9 : decode cX7_tally 9 = .ok (.invokevirtual 56, 3) := by decide +kernel
theorem dX7_tally_12 : decode cX7_tally 12 = .ok (.if_icmp .ge 17, 3) := by decide +kernel
theorem dX7_tally_15 : decode cX7_tally 15 = .ok (.aload_n 0, 1) := by decide +kernel
theorem dX7_tally_16 : decode cX7_tally 16 = .ok (.getfield 30, 3) := by decide +kernel
theorem dX7_tally_19 : decode cX7_tally 19 = .ok (.iload_n 1, 1) := by decide +kernel
theorem dX7_tally_20 : decode cX7_tally 20 = .ok (.invokevirtual 60, 3) := by decide +kernel
theorem dX7_tally_23 : decode cX7_tally 23 = .ok (.checkcast 74, 3) := by decide +kernel
theorem dX7_tally_26 : decode cX7_tally 26 = .ok (.goto 4, 3) := by decide +kernel
theorem dX7_tally_29 : decode cX7_tally 29 = .ok (.aconst_null, 1) := by decide +kernel
theorem dX7_tally_30 : decode cX7_tally 30 = .ok (.areturn, 1) := by decide +kernel
theorem dX7_script_0 : decode cX7_script 0 = .ok (.iload_n 1, 1) := by decide +kernel
theorem dX7_script_1 : decode cX7_script 1 = .ok (.ifCond .lt 28, 3) := by decide +kernel
theorem dX7_script_4 : decode cX7_script 4 = .ok (.iload_n 1, 1) := by decide +kernel
theorem dX7_script_5 : decode cX7_script 5 = .ok (.aload_n 0, 1) := by decide +kernel
theorem dX7_script_6 : decode cX7_script 6 = .ok (.getfield 27, 3) := by decide +kernel
theorem dX7_script_9 : decode cX7_script 9 = .ok (.invokevirtual 56, 3) := by decide +kernel
end
section
theorem dX7_script_12 : decode cX7_script 12 = .ok (.if_icmp .ge 17, 3) := by decide +kernel
theorem dX7_script_15 : decode cX7_script 15 = .ok (.aload_n 0, 1) := by decide +kernel
theorem dX7_script_16 : decode cX7_script 16 = .ok (.getfield 27, 3) := by decide +kernel
theorem dX7_script_19 : decode cX7_script 19 = .ok (.iload_n 1, 1) := by decide +kernel
theorem dX7_script_20 : decode cX7_script 20 = .ok (.invokevirtual 60, 3) := by decide +kernel
theorem dX7_script_23 : decode cX7_script 23 = .ok (.checkcast 76, 3) := by decide +kernel
theorem dX7_script_26 : decode cX7_script 26 = .ok (.goto 4, 3) := by decide +kernel
theorem dX7_script_29 : decode cX7_script 29 = .ok (.aconst_null, 1) := by decide +kernel
theorem dX7_script_30 : decode cX7_script 30 = .ok (.areturn, 1) := by decide +kernel
theorem dX7_process_0 : decode cX7_process 0 = .ok (.iload_n 1, 1) := by decide +kernel
theorem dX7_process_1 : decode cX7_process 1 = .ok (.ifCond .lt 29, 3) := by decide +kernel
theorem dX7_process_4 : decode cX7_process 4 = .ok (.iload_n 1, 1) := by decide +kernel
theorem dX7_process_5 : decode cX7_process 5 = .ok (.aload_n 0, 1) := by decide +kernel
theorem dX7_process_6 : decode cX7_process 6 = .ok (.getfield 36, 3) := by decide +kernel
theorem dX7_process_9 : decode cX7_process 9 = .ok (.if_icmp .ge 21, 3) := by decide +kernel
theorem dX7_process_12 : decode cX7_process 12 = .ok (.iload_n 1, 1) := by decide +kernel
theorem dX7_process_13 : decode cX7_process 13 = .ok (.aload_n 0, 1) := by decide +kernel
theorem dX7_process_14 : decode cX7_process 14 = .ok (.getfield 23, 3) := by decide +kernel
theorem dX7_process_17 : decode cX7_process 17 = .ok (.arraylength, 1) := by decide +kernel
theorem dX7_process_18 : decode cX7_process 18 = .ok (.if_icmp .ge 12, 3) := by decide +kernel
theorem dX7_process_21 : decode cX7_process 21 = .ok (.aload_n 0, 1) := by decide +kernel
theorem dX7_process_22 : decode cX7_process 22 = .ok (.getfield 23, 3) := by decide +kernel
theorem dX7_process_25 : decode cX7_process 25 = .ok (.iload_n 1, 1) := by decide +kernel
theorem dX7_process_26 : decode cX7_process 26 = .ok (.aaload, 1) := by decide +kernel
theorem dX7_process_27 : decode cX7_process 27 = .ok (.goto 4, 3) := by decide +kernel
theorem dX7_process_30 : decode cX7_process 30 = .ok (.aconst_null, 1) := by decide +kernel
theorem dX7_process_31 : decode cX7_process 31 = .ok (.areturn, 1) := by decide +kernel
theorem dX7_hasStarted_0 : decode cX7_hasStarted 0 = .ok (.aload_n 0, 1) := by decide +kernel
theorem dX7_hasStarted_1 : decode cX7_hasStarted 1 = .ok (.getfield 23, 3) := by decide +kernel
theorem dX7_hasStarted_4 : decode cX7_hasStarted 4 = .ok (.astore_n 2, 1) := by decide +kernel
theorem dX7_hasStarted_5 : decode cX7_hasStarted 5 = .ok (.aload_n 2, 1) := by decide +kernel
theorem dX7_hasStarted_6 : decode cX7_hasStarted 6 = .ok (.arraylength, 1) := by decide +kernel
theorem dX7_hasStarted_7 : decode cX7_hasStarted 7 = .ok (.istore_n 3, 1) := by decide +kernel
theorem dX7_hasStarted_8 : decode cX7_hasStarted 8 = .ok (.iconst 0, 1) := by decide +kernel
theorem dX7_hasStarted_9 : decode cX7_hasStarted 9 = .ok (.istore 4, 2) := by decide +kernel
theorem dX7_hasStarted_11 : decode cX7_hasStarted 11 = .ok (.iload 4, 2) := by decide +kernel
theorem dX7_hasStarted_13 : decode cX7_hasStarted 13 = .ok (.iload_n 3, 1) := by decide +kernel
theorem dX7_hasStarted_14 : decode cX7_hasStarted 14 = .ok (.if_icmp .ge 26, 3) := by decide +kernel
theorem dX7_hasStarted_17 : decode cX7_hasStarted 17 = .ok (.aload_n 2, 1) := by decide +kernel
theorem dX7_hasStarted_18 : decode cX7_hasStarted 18 = .ok (.iload 4, 2) := by decide +kernel
theorem dX7_hasStarted_20 : decode cX7_hasStarted 20 = .ok (.aaload, 1) := by decide +kernel
theorem dX7_hasStarted_21 : decode cX7_hasStarted 21 = .ok (.astore 5, 2) := by decide +kernel
theorem dX7_hasStarted_23 : decode cX7_hasStarted 23 = .ok (.aload 5, 2) := by decide +kernel
theorem dX7_hasStarted_25 : decode cX7_hasStarted 25 = .ok (.getfield 78, 3) := by decide +kernel
theorem dX7_hasStarted_28 : decode cX7_hasStarted 28 = .ok (.aload_n 1, 1) := by decide +kernel
theorem dX7_hasStarted_29 : decode cX7_hasStarted 29 = .ok (.if_acmp .ne 5, 3) := by decide +kernel
theorem dX7_hasStarted_32 : decode cX7_hasStarted 32 = .ok (.iconst 1, 1) := by decide +kernel
theorem dX7_hasStarted_33 : decode cX7_hasStarted 33 = .ok (.ireturn, 1) := by decide +kernel
theorem dX7_hasStarted_34 : decode cX7_hasStarted 34 = .ok (.iinc 4 1, 3) := by decide +kernel
theorem dX7_hasStarted_37 : decode cX7_hasStarted 37 = .ok (.goto (-26), 3) := by decide +kernel
theorem dX7_hasStarted_40 : decode cX7_hasStarted 40 = .ok (.iconst 0, 1) := by decide +kernel
theorem dX7_hasStarted_41 : decode cX7_hasStarted 41 = .ok (.ireturn, 1) := by decide +kernel
theorem dX7_begin_0 : decode cX7_begin 0 = .ok (.aload_n 0, 1) := by decide +kernel
theorem dX7_begin_1 : decode cX7_begin 1 = .ok (.getfield 36, 3) := by decide +kernel
theorem dX7_begin_4 : decode cX7_begin 4 = .ok (.ifCond .lt 15, 3) := by decide +kernel
theorem dX7_begin_7 : decode cX7_begin 7 = .ok (.aload_n 0, 1) := by decide +kernel
theorem dX7_begin_8 : decode cX7_begin 8 = .ok (.getfield 36, 3) := by decide +kernel
theorem dX7_begin_11 : decode cX7_begin 11 = .ok (.aload_n 0, 1) := by decide +kernel
theorem dX7_begin_12 : decode cX7_begin 12 = .ok (.getfield 23, 3) := by decide +kernel
theorem dX7_begin_15 : decode cX7_begin 15 = .ok (.arraylength, 1) := by decide +kernel
theorem dX7_begin_16 : decode cX7_begin 16 = .ok (.if_icmp .lt 4, 3) := by decide +kernel
theorem dX7_begin_19 : decode cX7_begin 19 = .ok (.return_, 1) := by decide +kernel
theorem dX7_begin_20 : decode cX7_begin 20 = .ok (.aload_n 0, 1) := by decide +kernel
theorem dX7_begin_21 : decode cX7_begin 21 = .ok (.getfield 23, 3) := by decide +kernel
theorem dX7_begin_24 : decode cX7_begin 24 = .ok (.aload_n 0, 1) := by decide +kernel
theorem dX7_begin_25 : decode cX7_begin 25 = .ok (.getfield 36, 3) := by decide +kernel
theorem dX7_begin_28 : decode cX7_begin 28 = .ok (.aaload, 1) := by decide +kernel
theorem dX7_begin_29 : decode cX7_begin 29 = .ok (.astore 4, 2) := by decide +kernel
theorem dX7_begin_31 : decode cX7_begin 31 = .ok (.aload_n 0, 1) := by decide +kernel
theorem dX7_begin_32 : decode cX7_begin 32 = .ok (.dup, 1) := by decide +kernel
theorem dX7_begin_33 : decode cX7_begin 33 = .ok (.getfield 36, 3) := by decide +kernel
theorem dX7_begin_36 : decode cX7_begin 36 = .ok (.iconst 1, 1) := by decide +kernel
theorem dX7_begin_37 : decode cX7_begin 37 = .ok (.iadd, 1) := by decide +kernel
theorem dX7_begin_38 : decode cX7_begin 38 = .ok (.putfield 36, 3) := by decide +kernel
theorem dX7_begin_41 : decode cX7_begin 41 = .ok (.aload 4, 2) := by decide +kernel
theorem dX7_begin_43 : decode cX7_begin 43 = .ok (.aload_n 1, 1) := by decide +kernel
theorem dX7_begin_44 : decode cX7_begin 44 = .ok (.putfield 78, 3) := by decide +kernel
theorem dX7_begin_47 : decode cX7_begin 47 = .ok (.aload 4, 2) := by decide +kernel
theorem dX7_begin_49 : decode cX7_begin 49 = .ok (.iload_n 2, 1) := by decide +kernel
theorem dX7_begin_50 : decode cX7_begin 50 = .ok (.putfield 82, 3) := by decide +kernel
theorem dX7_begin_53 : decode cX7_begin 53 = .ok (.aload 4, 2) := by decide +kernel
theorem dX7_begin_55 : decode cX7_begin 55 = .ok (.aload_n 0, 1) := by decide +kernel
theorem dX7_begin_56 : decode cX7_begin 56 = .ok (.getfield 40, 3) := by decide +kernel
theorem dX7_begin_59 : decode cX7_begin 59 = .ok (.putfield 85, 3) := by decide +kernel
theorem dX7_begin_62 : decode cX7_begin 62 = .ok (.aload_n 0, 1) := by decide +kernel
theorem dX7_begin_63 : decode cX7_begin 63 = .ok (.aload 4, 2) := by decide +kernel
theorem dX7_begin_65 : decode cX7_begin 65 = .ok (.iconst 0, 1) := by decide +kernel
theorem dX7_begin_66 : decode cX7_begin 66 = .ok (.iload_n 3, 1) := by decide +kernel
theorem dX7_begin_67 : decode cX7_begin 67 = .ok (.invokevirtual 88, 3) := by decide +kernel
theorem dX7_begin_70 : decode cX7_begin 70 = .ok (.return_, 1) := by decide +kernel
theorem dX7_schedule_0 : decode cX7_schedule 0 = .ok (.aload_n 0, 1) := by decide +kernel
theorem dX7_schedule_1 : decode cX7_schedule 1 = .ok (.dup, 1) := by decide +kernel
theorem dX7_schedule_2 : decode cX7_schedule 2 = .ok (.getfield 49, 3) := by decide +kernel
theorem dX7_schedule_5 : decode cX7_schedule 5 = .ok (.iconst 1, 1) := by decide +kernel
theorem dX7_schedule_6 : decode cX7_schedule 6 = .ok (.iadd, 1) := by decide +kernel
theorem dX7_schedule_7 : decode cX7_schedule 7 = .ok (.putfield 49, 3) := by decide +kernel
theorem dX7_schedule_10 : decode cX7_schedule 10 = .ok (.aload_n 1, 1) := by decide +kernel
theorem dX7_schedule_11 : decode cX7_schedule 11 = .ok (.iload_n 2, 1) := by decide +kernel
theorem dX7_schedule_12 : decode cX7_schedule 12 = .ok (.putfield 92, 3) := by decide +kernel
theorem dX7_schedule_15 : decode cX7_schedule 15 = .ok (.aload_n 1, 1) := by decide +kernel
theorem dX7_schedule_16 : decode cX7_schedule 16 = .ok (.aload_n 0, 1) := by decide +kernel
theorem dX7_schedule_17 : decode cX7_schedule 17 = .ok (.getfield 40, 3) := by decide +kernel
theorem dX7_schedule_20 : decode cX7_schedule 20 = .ok (.iload_n 3, 1) := by decide +kernel
theorem dX7_schedule_21 : decode cX7_schedule 21 = .ok (.iadd, 1) := by decide +kernel
theorem dX7_schedule_22 : decode cX7_schedule 22 = .ok (.putfield 95, 3) := by decide +kernel
theorem dX7_schedule_25 : decode cX7_schedule 25 = .ok (.aload_n 1, 1) := by decide +kernel
theorem dX7_schedule_26 : decode cX7_schedule 26 = .ok (.aload_n 0, 1) := by decide +kernel
theorem dX7_schedule_27 : decode cX7_schedule 27 = .ok (.getfield 49, 3) := by decide +kernel
theorem dX7_schedule_30 : decode cX7_schedule 30 = .ok (.putfield 98, 3) := by decide +kernel
theorem dX7_schedule_33 : decode cX7_schedule 33 = .ok (.return_, 1) := by decide +kernel
theorem dX7_interruptOne_0 : decode cX7_interruptOne 0 = .ok (.aload_n 1, 1) := by decide +kernel
theorem dX7_interruptOne_1 : decode cX7_interruptOne 1 = .ok (.getfield 92, 3) := by decide +kernel
theorem dX7_interruptOne_4 : decode cX7_interruptOne 4 = .ok (.iconst 1, 1) := by decide +kernel
theorem dX7_interruptOne_5 : decode cX7_interruptOne 5 = .ok (.if_icmp .ne 16, 3) := by decide +kernel
theorem dX7_interruptOne_8 : decode cX7_interruptOne 8 = .ok (.aload_n 1, 1) := by decide +kernel
theorem dX7_interruptOne_9 : decode cX7_interruptOne 9 = .ok (.aload_n 1, 1) := by decide +kernel
theorem dX7_interruptOne_10 : decode cX7_interruptOne 10 = .ok (.getfield 95, 3) := by decide +kernel
theorem dX7_interruptOne_13 : decode cX7_interruptOne 13 = .ok (.aload_n 0, 1) := by decide +kernel
theorem dX7_interruptOne_14 : decode cX7_interruptOne 14 = .ok (.getfield 40, 3) := by decide +kernel
theorem dX7_interruptOne_17 : decode cX7_interruptOne 17 = .ok (.isub, 1) := by decide +kernel
theorem dX7_interruptOne_18 : decode cX7_interruptOne 18 = .ok (.putfield 101, 3) := by decide +kernel
theorem dX7_interruptOne_21 : decode cX7_interruptOne 21 = .ok (.aload_n 1, 1) := by decide +kernel
theorem dX7_interruptOne_22 : decode cX7_interruptOne 22 = .ok (.iconst (-1), 1) := by decide +kernel
theorem dX7_interruptOne_23 : decode cX7_interruptOne 23 = .ok (.putfield 95, 3) := by decide +kernel
theorem dX7_interruptOne_26 : decode cX7_interruptOne 26 = .ok (.aload_n 0, 1) := by decide +kernel
theorem dX7_interruptOne_27 : decode cX7_interruptOne 27 = .ok (.aload_n 1, 1) := by decide +kernel
theorem dX7_interruptOne_28 : decode cX7_interruptOne 28 = .ok (.invokevirtual 104, 3) := by decide +kernel
theorem dX7_interruptOne_31 : decode cX7_interruptOne 31 = .ok (.aload_n 1, 1) := by decide +kernel
theorem dX7_interruptOne_32 : decode cX7_interruptOne 32 = .ok (.getfield 78, 3) := by decide +kernel
theorem dX7_interruptOne_35 : decode cX7_interruptOne 35 = .ok (.ifnull 25, 3) := by decide +kernel
theorem dX7_interruptOne_38 : decode cX7_interruptOne 38 = .ok (.aload_n 1, 1) := by decide +kernel
theorem dX7_interruptOne_39 : decode cX7_interruptOne 39 = .ok (.getfield 78, 3) := by decide +kernel
theorem dX7_interruptOne_42 : decode cX7_interruptOne 42 = .ok (.getfield 107, 3) := by decide +kernel
theorem dX7_interruptOne_45 : decode cX7_interruptOne 45 = .ok (.iconst (-1), 1) := by decide +kernel
theorem dX7_interruptOne_46 : decode cX7_interruptOne 46 = .ok (.if_icmp .eq 14, 3) := by decide +kernel
theorem dX7_interruptOne_49 : decode cX7_interruptOne 49 = .ok (.aload_n 1, 1) := by decide +kernel
theorem dX7_interruptOne_50 : decode cX7_interruptOne 50 = .ok (.aload_n 1, 1) := by decide +kernel
theorem dX7_interruptOne_51 : decode cX7_interruptOne 51 = .ok (.getfield 78, 3) := by decide +kernel
theorem dX7_interruptOne_54 : decode cX7_interruptOne 54 = .ok (.getfield 107, 3) := by decide +kernel
theorem dX7_interruptOne_57 : decode cX7_interruptOne 57 = .ok (.putfield 110, 3) := by decide +kernel
theorem dX7_interruptOne_60 : decode cX7_interruptOne 60 = .ok (.aload_n 0, 1) := by decide +kernel
theorem dX7_interruptOne_61 : decode cX7_interruptOne 61 = .ok (.aload_n 1, 1) := by decide +kernel
theorem dX7_interruptOne_62 : decode cX7_interruptOne 62 = .ok (.iconst 0, 1) := by decide +kernel
theorem dX7_interruptOne_63 : decode cX7_interruptOne 63 = .ok (.iconst 0, 1) := by decide +kernel
theorem dX7_interruptOne_64 : decode cX7_interruptOne 64 = .ok (.invokevirtual 88, 3) := by decide +kernel
theorem dX7_interruptOne_67 : decode cX7_interruptOne 67 = .ok (.return_, 1) := by decide +kernel
theorem dX7_finish_0 : decode cX7_finish 0 = .ok (.aload_n 1, 1) := by decide +kernel
theorem dX7_finish_1 : decode cX7_finish 1 = .ok (.iload_n 2, 1) := by decide +kernel
theorem dX7_finish_2 : decode cX7_finish 2 = .ok (.putfield 92, 3) := by decide +kernel
theorem dX7_finish_5 : decode cX7_finish 5 = .ok (.aload_n 1, 1) := by decide +kernel
theorem dX7_finish_6 : decode cX7_finish 6 = .ok (.iconst (-1), 1) := by decide +kernel
theorem dX7_finish_7 : decode cX7_finish 7 = .ok (.putfield 95, 3) := by decide +kernel
theorem dX7_finish_10 : decode cX7_finish 10 = .ok (.aload_n 0, 1) := by decide +kernel
theorem dX7_finish_11 : decode cX7_finish 11 = .ok (.aload_n 1, 1) := by decide +kernel
theorem dX7_finish_12 : decode cX7_finish 12 = .ok (.invokevirtual 104, 3) := by decide +kernel
theorem dX7_finish_15 : decode cX7_finish 15 = .ok (.iconst 0, 1) := by decide +kernel
theorem dX7_finish_16 : decode cX7_finish 16 = .ok (.istore_n 3, 1) := by decide +kernel
theorem dX7_finish_17 : decode cX7_finish 17 = .ok (.iload_n 3, 1) := by decide +kernel
theorem dX7_finish_18 : decode cX7_finish 18 = .ok (.aload_n 0, 1) := by decide +kernel
theorem dX7_finish_19 : decode cX7_finish 19 = .ok (.getfield 12, 3) := by decide +kernel
theorem dX7_finish_22 : decode cX7_finish 22 = .ok (.invokevirtual 56, 3) := by decide +kernel
theorem dX7_finish_25 : decode cX7_finish 25 = .ok (.if_icmp .ge 27, 3) := by decide +kernel
theorem dX7_finish_28 : decode cX7_finish 28 = .ok (.aload_n 0, 1) := by decide +kernel
theorem dX7_finish_29 : decode cX7_finish 29 = .ok (.aload_n 1, 1) := by decide +kernel
theorem dX7_finish_30 : decode cX7_finish 30 = .ok (.aload_n 0, 1) := by decide +kernel
theorem dX7_finish_31 : decode cX7_finish 31 = .ok (.getfield 12, 3) := by decide +kernel
theorem dX7_finish_34 : decode cX7_finish 34 = .ok (.iload_n 3, 1) := by decide +kernel
theorem dX7_finish_35 : decode cX7_finish 35 = .ok (.invokevirtual 60, 3) := by decide +kernel
theorem dX7_finish_38 : decode cX7_finish 38 = .ok (.checkcast 64, 3) := by decide +kernel
theorem dX7_finish_41 : decode cX7_finish 41 = .ok (.bipush 9, 2) := by decide +kernel
theorem dX7_finish_43 : decode cX7_finish 43 = .ok (.invokevirtual 113, 3) := by decide +kernel
theorem dX7_finish_46 : decode cX7_finish 46 = .ok (.iinc 3 1, 3) := by decide +kernel
theorem dX7_finish_49 : decode cX7_finish 49 = .ok (.goto (-32), 3) := by decide +kernel
theorem dX7_finish_52 : decode cX7_finish 52 = .ok (.return_, 1) := by decide +kernel
theorem dX7_countEvents_0 : decode cX7_countEvents 0 = .ok (.iconst 0, 1) := by decide +kernel
theorem dX7_countEvents_1 : decode cX7_countEvents 1 = .ok (.istore_n 1, 1) := by decide +kernel
theorem dX7_countEvents_2 : decode cX7_countEvents 2 = .ok (.aload_n 0, 1) := by decide +kernel
theorem dX7_countEvents_3 : decode cX7_countEvents 3 = .ok (.getfield 23, 3) := by decide +kernel
theorem dX7_countEvents_6 : decode cX7_countEvents 6 = .ok (.astore_n 2, 1) := by decide +kernel
theorem dX7_countEvents_7 : decode cX7_countEvents 7 = .ok (.aload_n 2, 1) := by decide +kernel
theorem dX7_countEvents_8 : decode cX7_countEvents 8 = .ok (.arraylength, 1) := by decide +kernel
theorem dX7_countEvents_9 : decode cX7_countEvents 9 = .ok (.istore_n 3, 1) := by decide +kernel
theorem dX7_countEvents_10 : decode cX7_countEvents 10 = .ok (.iconst 0, 1) := by decide +kernel
theorem dX7_countEvents_11 : decode cX7_countEvents 11 = .ok (.istore 4, 2) := by decide +kernel
theorem dX7_countEvents_13 : decode cX7_countEvents 13 = .ok (.iload 4, 2) := by decide +kernel
theorem dX7_countEvents_15 : decode cX7_countEvents 15 = .ok (.iload_n 3, 1) := by decide +kernel
theorem dX7_countEvents_16 : decode cX7_countEvents 16 = .ok (.if_icmp .ge 27, 3) := by decide +kernel
theorem dX7_countEvents_19 : decode cX7_countEvents 19 = .ok (.aload_n 2, 1) := by decide +kernel
theorem dX7_countEvents_20 : decode cX7_countEvents 20 = .ok (.iload 4, 2) := by decide +kernel
theorem dX7_countEvents_22 : decode cX7_countEvents 22 = .ok (.aaload, 1) := by decide +kernel
theorem dX7_countEvents_23 : decode cX7_countEvents 23 = .ok (.astore 5, 2) := by decide +kernel
theorem dX7_countEvents_25 : decode cX7_countEvents 25 = .ok (.aload 5, 2) := by decide +kernel
theorem dX7_countEvents_27 : decode cX7_countEvents 27 = .ok (.getfield 95, 3) := by decide +kernel
theorem dX7_countEvents_30 : decode cX7_countEvents 30 = .ok (.iconst (-1), 1) := by decide +kernel
theorem dX7_countEvents_31 : decode cX7_countEvents 31 = .ok (.if_icmp .eq 6, 3) := by decide +kernel
theorem dX7_countEvents_34 : decode cX7_countEvents 34 = .ok (.iinc 1 1, 3) := by decide +kernel
theorem dX7_countEvents_37 : decode cX7_countEvents 37 = .ok (.iinc 4 1, 3) := by decide +kernel
theorem dX7_countEvents_40 : decode cX7_countEvents 40 = .ok (.goto (-27), 3) := by decide +kernel
theorem dX7_countEvents_43 : decode cX7_countEvents 43 = .ok (.iload_n 1, 1) := by decide +kernel
theorem dX7_countEvents_44 : decode cX7_countEvents 44 = .ok (.ireturn, 1) := by decide +kernel
theorem dX7_nextToGo_0 : decode cX7_nextToGo 0 = .ok (.aconst_null, 1) := by decide +kernel
theorem dX7_nextToGo_1 : decode cX7_nextToGo 1 = .ok (.astore_n 1, 1) := by decide +kernel
theorem dX7_nextToGo_2 : decode cX7_nextToGo 2 = .ok (.aload_n 0, 1) := by decide +kernel
theorem dX7_nextToGo_3 : decode cX7_nextToGo 3 = .ok (.getfield 23, 3) := by decide +kernel
theorem dX7_nextToGo_6 : decode cX7_nextToGo 6 = .ok (.astore_n 2, 1) := by decide +kernel
theorem dX7_nextToGo_7 : decode cX7_nextToGo 7 = .ok (.aload_n 2, 1) := by decide +kernel
theorem dX7_nextToGo_8 : decode cX7_nextToGo 8 = .ok (.arraylength, 1) := by decide +kernel
theorem dX7_nextToGo_9 : decode cX7_nextToGo 9 = .ok (.istore_n 3, 1) := by decide +kernel
theorem dX7_nextToGo_10 : decode cX7_nextToGo 10 = .ok (.iconst 0, 1) := by decide +kernel
theorem dX7_nextToGo_11 : decode cX7_nextToGo 11 = .ok (.istore 4, 2) := by decide +kernel
theorem dX7_nextToGo_13 : decode cX7_nextToGo 13 = .ok (.iload 4, 2) := by decide +kernel
theorem dX7_nextToGo_15 : decode cX7_nextToGo 15 = .ok (.iload_n 3, 1) := by decide +kernel
theorem dX7_nextToGo_16 : decode cX7_nextToGo 16 = .ok (.if_icmp .ge 40, 3) := by decide +kernel
theorem dX7_nextToGo_19 : decode cX7_nextToGo 19 = .ok (.aload_n 2, 1) := by decide +kernel
theorem dX7_nextToGo_20 : decode cX7_nextToGo 20 = .ok (.iload 4, 2) := by decide +kernel
theorem dX7_nextToGo_22 : decode cX7_nextToGo 22 = .ok (.aaload, 1) := by decide +kernel
theorem dX7_nextToGo_23 : decode cX7_nextToGo 23 = .ok (.astore 5, 2) := by decide +kernel
theorem dX7_nextToGo_25 : decode cX7_nextToGo 25 = .ok (.aload 5, 2) := by decide +kernel
theorem dX7_nextToGo_27 : decode cX7_nextToGo 27 = .ok (.getfield 95, 3) := by decide +kernel
theorem dX7_nextToGo_30 : decode cX7_nextToGo 30 = .ok (.iconst (-1), 1) := by decide +kernel
theorem dX7_nextToGo_31 : decode cX7_nextToGo 31 = .ok (.if_icmp .eq 19, 3) := by decide +kernel
theorem dX7_nextToGo_34 : decode cX7_nextToGo 34 = .ok (.aload_n 1, 1) := by decide +kernel
theorem dX7_nextToGo_35 : decode cX7_nextToGo 35 = .ok (.ifnull 12, 3) := by decide +kernel
theorem dX7_nextToGo_38 : decode cX7_nextToGo 38 = .ok (.aload 5, 2) := by decide +kernel
theorem dX7_nextToGo_40 : decode cX7_nextToGo 40 = .ok (.aload_n 1, 1) := by decide +kernel
theorem dX7_nextToGo_41 : decode cX7_nextToGo 41 = .ok (.invokevirtual 117, 3) := by decide +kernel
theorem dX7_nextToGo_44 : decode cX7_nextToGo 44 = .ok (.ifCond .eq 6, 3) := by decide +kernel
theorem dX7_nextToGo_47 : decode cX7_nextToGo 47 = .ok (.aload 5, 2) := by decide +kernel
theorem dX7_nextToGo_49 : decode cX7_nextToGo 49 = .ok (.astore_n 1, 1) := by decide +kernel
theorem dX7_nextToGo_50 : decode cX7_nextToGo 50 = .ok (.iinc 4 1, 3) := by decide +kernel
theorem dX7_nextToGo_53 : decode cX7_nextToGo 53 = .ok (.goto (-40), 3) := by decide +kernel
theorem dX7_nextToGo_56 : decode cX7_nextToGo 56 = .ok (.aload_n 1, 1) := by decide +kernel
theorem dX7_nextToGo_57 : decode cX7_nextToGo 57 = .ok (.areturn, 1) := by decide +kernel
theorem dX7_hasEventBy_0 : decode cX7_hasEventBy 0 = .ok (.aload_n 0, 1) := by decide +kernel
theorem dX7_hasEventBy_1 : decode cX7_hasEventBy 1 = .ok (.invokevirtual 121, 3) := by decide +kernel
theorem dX7_hasEventBy_4 : decode cX7_hasEventBy 4 = .ok (.astore_n 2, 1) := by decide +kernel
theorem dX7_hasEventBy_5 : decode cX7_hasEventBy 5 = .ok (.aload_n 2, 1) := by decide +kernel
theorem dX7_hasEventBy_6 : decode cX7_hasEventBy 6 = .ok (.ifnull 15, 3) := by decide +kernel
theorem dX7_hasEventBy_9 : decode cX7_hasEventBy 9 = .ok (.aload_n 2, 1) := by decide +kernel
theorem dX7_hasEventBy_10 : decode cX7_hasEventBy 10 = .ok (.getfield 95, 3) := by decide +kernel
theorem dX7_hasEventBy_13 : decode cX7_hasEventBy 13 = .ok (.iload_n 1, 1) := by decide +kernel
theorem dX7_hasEventBy_14 : decode cX7_hasEventBy 14 = .ok (.if_icmp .gt 7, 3) := by decide +kernel
theorem dX7_hasEventBy_17 : decode cX7_hasEventBy 17 = .ok (.iconst 1, 1) := by decide +kernel
theorem dX7_hasEventBy_18 : decode cX7_hasEventBy 18 = .ok (.goto 4, 3) := by decide +kernel
theorem dX7_hasEventBy_21 : decode cX7_hasEventBy 21 = .ok (.iconst 0, 1) := by decide +kernel
theorem dX7_hasEventBy_22 : decode cX7_hasEventBy 22 = .ok (.ireturn, 1) := by decide +kernel
theorem dX7_goTo_0 : decode cX7_goTo 0 = .ok (.iload_n 1, 1) := by decide +kernel
theorem dX7_goTo_1 : decode cX7_goTo 1 = .ok (.aload_n 0, 1) := by decide +kernel
theorem dX7_goTo_2 : decode cX7_goTo 2 = .ok (.getfield 40, 3) := by decide +kernel
theorem dX7_goTo_5 : decode cX7_goTo 5 = .ok (.isub, 1) := by decide +kernel
theorem dX7_goTo_6 : decode cX7_goTo 6 = .ok (.istore_n 2, 1) := by decide +kernel
theorem dX7_goTo_7 : decode cX7_goTo 7 = .ok (.iconst 0, 1) := by decide +kernel
theorem dX7_goTo_8 : decode cX7_goTo 8 = .ok (.istore_n 3, 1) := by decide +kernel
theorem dX7_goTo_9 : decode cX7_goTo 9 = .ok (.iload_n 3, 1) := by decide +kernel
theorem dX7_goTo_10 : decode cX7_goTo 10 = .ok (.aload_n 0, 1) := by decide +kernel
theorem dX7_goTo_11 : decode cX7_goTo 11 = .ok (.getfield 12, 3) := by decide +kernel
theorem dX7_goTo_14 : decode cX7_goTo 14 = .ok (.invokevirtual 56, 3) := by decide +kernel
theorem dX7_goTo_17 : decode cX7_goTo 17 = .ok (.if_icmp .ge 66, 3) := by decide +kernel
theorem dX7_goTo_20 : decode cX7_goTo 20 = .ok (.aload_n 0, 1) := by decide +kernel
theorem dX7_goTo_21 : decode cX7_goTo 21 = .ok (.getfield 12, 3) := by decide +kernel
theorem dX7_goTo_24 : decode cX7_goTo 24 = .ok (.iload_n 3, 1) := by decide +kernel
theorem dX7_goTo_25 : decode cX7_goTo 25 = .ok (.invokevirtual 60, 3) := by decide +kernel
theorem dX7_goTo_28 : decode cX7_goTo 28 = .ok (.checkcast 64, 3) := by decide +kernel
theorem dX7_goTo_31 : decode cX7_goTo 31 = .ok (.astore 4, 2) := by decide +kernel
theorem dX7_goTo_33 : decode cX7_goTo 33 = .ok (.aload 4, 2) := by decide +kernel
theorem dX7_goTo_35 : decode cX7_goTo 35 = .ok (.dup, 1) := by decide +kernel
theorem dX7_goTo_36 : decode cX7_goTo 36 = .ok (.getfield 125, 3) := by decide +kernel
theorem dX7_goTo_39 : decode cX7_goTo 39 = .ok (.aload 4, 2) := by decide +kernel
theorem dX7_goTo_41 : decode cX7_goTo 41 = .ok (.getfield 128, 3) := by decide +kernel
theorem dX7_goTo_44 : decode cX7_goTo 44 = .ok (.aload 4, 2) := by decide +kernel
theorem dX7_goTo_46 : decode cX7_goTo 46 = .ok (.getfield 131, 3) := by decide +kernel
theorem dX7_goTo_49 : decode cX7_goTo 49 = .ok (.isub, 1) := by decide +kernel
theorem dX7_goTo_50 : decode cX7_goTo 50 = .ok (.iload_n 2, 1) := by decide +kernel
theorem dX7_goTo_51 : decode cX7_goTo 51 = .ok (.imul, 1) := by decide +kernel
theorem dX7_goTo_52 : decode cX7_goTo 52 = .ok (.iadd, 1) := by decide +kernel
theorem dX7_goTo_53 : decode cX7_goTo 53 = .ok (.putfield 125, 3) := by decide +kernel
theorem dX7_goTo_56 : decode cX7_goTo 56 = .ok (.aload 4, 2) := by decide +kernel
theorem dX7_goTo_58 : decode cX7_goTo 58 = .ok (.dup, 1) := by decide +kernel
theorem dX7_goTo_59 : decode cX7_goTo 59 = .ok (.getfield 134, 3) := by decide +kernel
theorem dX7_goTo_62 : decode cX7_goTo 62 = .ok (.aload_n 0, 1) := by decide +kernel
theorem dX7_goTo_63 : decode cX7_goTo 63 = .ok (.aload 4, 2) := by decide +kernel
theorem dX7_goTo_65 : decode cX7_goTo 65 = .ok (.getfield 137, 3) := by decide +kernel
theorem dX7_goTo_68 : decode cX7_goTo 68 = .ok (.invokevirtual 140, 3) := by decide +kernel
theorem dX7_goTo_71 : decode cX7_goTo 71 = .ok (.iload_n 2, 1) := by decide +kernel
theorem dX7_goTo_72 : decode cX7_goTo 72 = .ok (.imul, 1) := by decide +kernel
theorem dX7_goTo_73 : decode cX7_goTo 73 = .ok (.iadd, 1) := by decide +kernel
theorem dX7_goTo_74 : decode cX7_goTo 74 = .ok (.putfield 134, 3) := by decide +kernel
theorem dX7_goTo_77 : decode cX7_goTo 77 = .ok (.iinc 3 1, 3) := by decide +kernel
theorem dX7_goTo_80 : decode cX7_goTo 80 = .ok (.goto (-71), 3) := by decide +kernel
theorem dX7_goTo_83 : decode cX7_goTo 83 = .ok (.iconst 0, 1) := by decide +kernel
theorem dX7_goTo_84 : decode cX7_goTo 84 = .ok (.istore_n 3, 1) := by decide +kernel
theorem dX7_goTo_85 : decode cX7_goTo 85 = .ok (.iload_n 3, 1) := by decide +kernel
theorem dX7_goTo_86 : decode cX7_goTo 86 = .ok (.aload_n 0, 1) := by decide +kernel
theorem dX7_goTo_87 : decode cX7_goTo 87 = .ok (.getfield 18, 3) := by decide +kernel
theorem dX7_goTo_90 : decode cX7_goTo 90 = .ok (.invokevirtual 56, 3) := by decide +kernel
theorem dX7_goTo_93 : decode cX7_goTo 93 = .ok (.if_icmp .ge 39, 3) := by decide +kernel
theorem dX7_goTo_96 : decode cX7_goTo 96 = .ok (.aload_n 0, 1) := by decide +kernel
theorem dX7_goTo_97 : decode cX7_goTo 97 = .ok (.getfield 18, 3) := by decide +kernel
theorem dX7_goTo_100 : decode cX7_goTo 100 = .ok (.iload_n 3, 1) := by decide +kernel
theorem dX7_goTo_101 : decode cX7_goTo 101 = .ok (.invokevirtual 60, 3) := by decide +kernel
theorem dX7_goTo_104 : decode cX7_goTo 104 = .ok (.checkcast 69, 3) := by decide +kernel
theorem dX7_goTo_107 : decode cX7_goTo 107 = .ok (.astore 4, 2) := by decide +kernel
theorem dX7_goTo_109 : decode cX7_goTo 109 = .ok (.aload 4, 2) := by decide +kernel
theorem dX7_goTo_111 : decode cX7_goTo 111 = .ok (.dup, 1) := by decide +kernel
theorem dX7_goTo_112 : decode cX7_goTo 112 = .ok (.getfield 144, 3) := by decide +kernel
theorem dX7_goTo_115 : decode cX7_goTo 115 = .ok (.aload 4, 2) := by decide +kernel
theorem dX7_goTo_117 : decode cX7_goTo 117 = .ok (.getfield 147, 3) := by decide +kernel
theorem dX7_goTo_120 : decode cX7_goTo 120 = .ok (.iload_n 2, 1) := by decide +kernel
theorem dX7_goTo_121 : decode cX7_goTo 121 = .ok (.imul, 1) := by decide +kernel
theorem dX7_goTo_122 : decode cX7_goTo 122 = .ok (.iadd, 1) := by decide +kernel
theorem dX7_goTo_123 : decode cX7_goTo 123 = .ok (.putfield 144, 3) := by decide +kernel
theorem dX7_goTo_126 : decode cX7_goTo 126 = .ok (.iinc 3 1, 3) := by decide +kernel
theorem dX7_goTo_129 : decode cX7_goTo 129 = .ok (.goto (-44), 3) := by decide +kernel
theorem dX7_goTo_132 : decode cX7_goTo 132 = .ok (.aload_n 0, 1) := by decide +kernel
theorem dX7_goTo_133 : decode cX7_goTo 133 = .ok (.iload_n 1, 1) := by decide +kernel
theorem dX7_goTo_134 : decode cX7_goTo 134 = .ok (.putfield 40, 3) := by decide +kernel
theorem dX7_goTo_137 : decode cX7_goTo 137 = .ok (.return_, 1) := by decide +kernel
theorem dX7_runFor_0 : decode cX7_runFor 0 = .ok (.aload_n 0, 1) := by decide +kernel
theorem dX7_runFor_1 : decode cX7_runFor 1 = .ok (.getfield 40, 3) := by decide +kernel
theorem dX7_runFor_4 : decode cX7_runFor 4 = .ok (.iload_n 1, 1) := by decide +kernel
theorem dX7_runFor_5 : decode cX7_runFor 5 = .ok (.iadd, 1) := by decide +kernel
theorem dX7_runFor_6 : decode cX7_runFor 6 = .ok (.istore_n 2, 1) := by decide +kernel
theorem dX7_runFor_7 : decode cX7_runFor 7 = .ok (.iconst 0, 1) := by decide +kernel
theorem dX7_runFor_8 : decode cX7_runFor 8 = .ok (.istore_n 3, 1) := by decide +kernel
theorem dX7_runFor_9 : decode cX7_runFor 9 = .ok (.iload_n 3, 1) := by decide +kernel
theorem dX7_runFor_10 : decode cX7_runFor 10 = .ok (.sipush 400, 3) := by decide +kernel
theorem dX7_runFor_13 : decode cX7_runFor 13 = .ok (.if_icmp .ge 22, 3) := by decide +kernel
theorem dX7_runFor_16 : decode cX7_runFor 16 = .ok (.aload_n 0, 1) := by decide +kernel
theorem dX7_runFor_17 : decode cX7_runFor 17 = .ok (.iload_n 2, 1) := by decide +kernel
theorem dX7_runFor_18 : decode cX7_runFor 18 = .ok (.invokevirtual 150, 3) := by decide +kernel
theorem dX7_runFor_21 : decode cX7_runFor 21 = .ok (.ifCond .eq 14, 3) := by decide +kernel
theorem dX7_runFor_24 : decode cX7_runFor 24 = .ok (.aload_n 0, 1) := by decide +kernel
theorem dX7_runFor_25 : decode cX7_runFor 25 = .ok (.invokevirtual 154, 3) := by decide +kernel
theorem dX7_runFor_28 : decode cX7_runFor 28 = .ok (.pop, 1) := by decide +kernel
theorem dX7_runFor_29 : decode cX7_runFor 29 = .ok (.iinc 3 1, 3) := by decide +kernel
theorem dX7_runFor_32 : decode cX7_runFor 32 = .ok (.goto (-23), 3) := by decide +kernel
theorem dX7_runFor_35 : decode cX7_runFor 35 = .ok (.aload_n 0, 1) := by decide +kernel
theorem dX7_runFor_36 : decode cX7_runFor 36 = .ok (.iload_n 2, 1) := by decide +kernel
theorem dX7_runFor_37 : decode cX7_runFor 37 = .ok (.invokevirtual 150, 3) := by decide +kernel
theorem dX7_runFor_40 : decode cX7_runFor 40 = .ok (.ifCond .ne 8, 3) := by decide +kernel
theorem dX7_runFor_43 : decode cX7_runFor 43 = .ok (.aload_n 0, 1) := by decide +kernel
theorem dX7_runFor_44 : decode cX7_runFor 44 = .ok (.iload_n 2, 1) := by decide +kernel
theorem dX7_runFor_45 : decode cX7_runFor 45 = .ok (.invokevirtual 157, 3) := by decide +kernel
theorem dX7_runFor_48 : decode cX7_runFor 48 = .ok (.iload_n 3, 1) := by decide +kernel
theorem dX7_runFor_49 : decode cX7_runFor 49 = .ok (.ireturn, 1) := by decide +kernel
theorem dX7_runToEndOf_0 : decode cX7_runToEndOf 0 = .ok (.aload_n 0, 1) := by decide +kernel
theorem dX7_runToEndOf_1 : decode cX7_runToEndOf 1 = .ok (.iload_n 1, 1) := by decide +kernel
theorem dX7_runToEndOf_2 : decode cX7_runToEndOf 2 = .ok (.invokevirtual 160, 3) := by decide +kernel
theorem dX7_runToEndOf_5 : decode cX7_runToEndOf 5 = .ok (.astore_n 3, 1) := by decide +kernel
theorem dX7_runToEndOf_6 : decode cX7_runToEndOf 6 = .ok (.iconst 0, 1) := by decide +kernel
theorem dX7_runToEndOf_7 : decode cX7_runToEndOf 7 = .ok (.istore 4, 2) := by decide +kernel
theorem dX7_runToEndOf_9 : decode cX7_runToEndOf 9 = .ok (.aload_n 3, 1) := by decide +kernel
theorem dX7_runToEndOf_10 : decode cX7_runToEndOf 10 = .ok (.ifnull 32, 3) := by decide +kernel
theorem dX7_runToEndOf_13 : decode cX7_runToEndOf 13 = .ok (.iload 4, 2) := by decide +kernel
theorem dX7_runToEndOf_15 : decode cX7_runToEndOf 15 = .ok (.iload_n 2, 1) := by decide +kernel
theorem dX7_runToEndOf_16 : decode cX7_runToEndOf 16 = .ok (.if_icmp .ge 26, 3) := by decide +kernel
theorem dX7_runToEndOf_19 : decode cX7_runToEndOf 19 = .ok (.aload_n 0, 1) := by decide +kernel
theorem dX7_runToEndOf_20 : decode cX7_runToEndOf 20 = .ok (.invokevirtual 154, 3) := by decide +kernel
theorem dX7_runToEndOf_23 : decode cX7_runToEndOf 23 = .ok (.pop, 1) := by decide +kernel
theorem dX7_runToEndOf_24 : decode cX7_runToEndOf 24 = .ok (.aload_n 3, 1) := by decide +kernel
theorem dX7_runToEndOf_25 : decode cX7_runToEndOf 25 = .ok (.invokevirtual 164, 3) := by decide +kernel
theorem dX7_runToEndOf_28 : decode cX7_runToEndOf 28 = .ok (.ifCond .eq 8, 3) := by decide +kernel
theorem dX7_runToEndOf_31 : decode cX7_runToEndOf 31 = .ok (.aload_n 0, 1) := by decide +kernel
theorem dX7_runToEndOf_32 : decode cX7_runToEndOf 32 = .ok (.getfield 40, 3) := by decide +kernel
theorem dX7_runToEndOf_35 : decode cX7_runToEndOf 35 = .ok (.ireturn, 1) := by decide +kernel
theorem dX7_runToEndOf_36 : decode cX7_runToEndOf 36 = .ok (.iinc 4 1, 3) := by decide +kernel
theorem dX7_runToEndOf_39 : decode cX7_runToEndOf 39 = .ok (.goto (-30), 3) := by decide +kernel
theorem dX7_runToEndOf_42 : decode cX7_runToEndOf 42 = .ok (.iconst (-1), 1) := by decide +kernel
theorem dX7_runToEndOf_43 : decode cX7_runToEndOf 43 = .ok (.ireturn, 1) := by decide +kernel
theorem dX7_happen_0 : decode cX7_happen 0 = .ok (.aload_n 0, 1) := by decide +kernel
theorem dX7_happen_1 : decode cX7_happen 1 = .ok (.invokevirtual 121, 3) := by decide +kernel
theorem dX7_happen_4 : decode cX7_happen 4 = .ok (.astore_n 1, 1) := by decide +kernel
theorem dX7_happen_5 : decode cX7_happen 5 = .ok (.aload_n 1, 1) := by decide +kernel
theorem dX7_happen_6 : decode cX7_happen 6 = .ok (.ifnonnull 5, 3) := by decide +kernel
theorem dX7_happen_9 : decode cX7_happen 9 = .ok (.aconst_null, 1) := by decide +kernel
theorem dX7_happen_10 : decode cX7_happen 10 = .ok (.areturn, 1) := by decide +kernel
theorem dX7_happen_11 : decode cX7_happen 11 = .ok (.aload_n 0, 1) := by decide +kernel
theorem dX7_happen_12 : decode cX7_happen 12 = .ok (.aload_n 1, 1) := by decide +kernel
theorem dX7_happen_13 : decode cX7_happen 13 = .ok (.getfield 95, 3) := by decide +kernel
theorem dX7_happen_16 : decode cX7_happen 16 = .ok (.invokevirtual 157, 3) := by decide +kernel
theorem dX7_happen_19 : decode cX7_happen 19 = .ok (.aload_n 1, 1) := by decide +kernel
theorem dX7_happen_20 : decode cX7_happen 20 = .ok (.iconst (-1), 1) := by decide +kernel
theorem dX7_happen_21 : decode cX7_happen 21 = .ok (.putfield 95, 3) := by decide +kernel
theorem dX7_happen_24 : decode cX7_happen 24 = .ok (.aload_n 1, 1) := by decide +kernel
theorem dX7_happen_25 : decode cX7_happen 25 = .ok (.bipush 8, 2) := by decide +kernel
theorem dX7_happen_27 : decode cX7_happen 27 = .ok (.putfield 92, 3) := by decide +kernel
theorem dX7_happen_30 : decode cX7_happen 30 = .ok (.iconst 0, 1) := by decide +kernel
theorem dX7_happen_31 : decode cX7_happen 31 = .ok (.istore_n 2, 1) := by decide +kernel
theorem dX7_happen_32 : decode cX7_happen 32 = .ok (.aload_n 1, 1) := by decide +kernel
theorem dX7_happen_33 : decode cX7_happen 33 = .ok (.getfield 92, 3) := by decide +kernel
theorem dX7_happen_36 : decode cX7_happen 36 = .ok (.bipush 8, 2) := by decide +kernel
theorem dX7_happen_38 : decode cX7_happen 38 = .ok (.if_icmp .ne 58, 3) := by decide +kernel
theorem dX7_happen_41 : decode cX7_happen 41 = .ok (.iload_n 2, 1) := by decide +kernel
theorem dX7_happen_42 : decode cX7_happen 42 = .ok (.bipush 40, 2) := by decide +kernel
theorem dX7_happen_44 : decode cX7_happen 44 = .ok (.if_icmp .ge 52, 3) := by decide +kernel
theorem dX7_happen_47 : decode cX7_happen 47 = .ok (.aload_n 1, 1) := by decide +kernel
theorem dX7_happen_48 : decode cX7_happen 48 = .ok (.invokevirtual 168, 3) := by decide +kernel
theorem dX7_happen_51 : decode cX7_happen 51 = .ok (.astore_n 3, 1) := by decide +kernel
theorem dX7_happen_52 : decode cX7_happen 52 = .ok (.aload_n 3, 1) := by decide +kernel
theorem dX7_happen_53 : decode cX7_happen 53 = .ok (.ifnonnull 11, 3) := by decide +kernel
theorem dX7_happen_56 : decode cX7_happen 56 = .ok (.aload_n 1, 1) := by decide +kernel
theorem dX7_happen_57 : decode cX7_happen 57 = .ok (.iconst 5, 1) := by decide +kernel
theorem dX7_happen_58 : decode cX7_happen 58 = .ok (.putfield 92, 3) := by decide +kernel
theorem dX7_happen_61 : decode cX7_happen 61 = .ok (.goto 29, 3) := by decide +kernel
theorem dX7_happen_64 : decode cX7_happen 64 = .ok (.aload_n 0, 1) := by decide +kernel
theorem dX7_happen_65 : decode cX7_happen 65 = .ok (.dup, 1) := by decide +kernel
theorem dX7_happen_66 : decode cX7_happen 66 = .ok (.getfield 46, 3) := by decide +kernel
theorem dX7_happen_69 : decode cX7_happen 69 = .ok (.iconst 1, 1) := by decide +kernel
theorem dX7_happen_70 : decode cX7_happen 70 = .ok (.iadd, 1) := by decide +kernel
theorem dX7_happen_71 : decode cX7_happen 71 = .ok (.putfield 46, 3) := by decide +kernel
theorem dX7_happen_74 : decode cX7_happen 74 = .ok (.aload_n 1, 1) := by decide +kernel
theorem dX7_happen_75 : decode cX7_happen 75 = .ok (.dup, 1) := by decide +kernel
theorem dX7_happen_76 : decode cX7_happen 76 = .ok (.getfield 110, 3) := by decide +kernel
theorem dX7_happen_79 : decode cX7_happen 79 = .ok (.iconst 1, 1) := by decide +kernel
theorem dX7_happen_80 : decode cX7_happen 80 = .ok (.iadd, 1) := by decide +kernel
theorem dX7_happen_81 : decode cX7_happen 81 = .ok (.putfield 110, 3) := by decide +kernel
theorem dX7_happen_84 : decode cX7_happen 84 = .ok (.aload_n 0, 1) := by decide +kernel
theorem dX7_happen_85 : decode cX7_happen 85 = .ok (.aload_n 1, 1) := by decide +kernel
theorem dX7_happen_86 : decode cX7_happen 86 = .ok (.aload_n 3, 1) := by decide +kernel
theorem dX7_happen_87 : decode cX7_happen 87 = .ok (.invokevirtual 172, 3) := by decide +kernel
theorem dX7_happen_90 : decode cX7_happen 90 = .ok (.iinc 2 1, 3) := by decide +kernel
theorem dX7_happen_93 : decode cX7_happen 93 = .ok (.goto (-61), 3) := by decide +kernel
theorem dX7_happen_96 : decode cX7_happen 96 = .ok (.aload_n 1, 1) := by decide +kernel
theorem dX7_happen_97 : decode cX7_happen 97 = .ok (.getfield 92, 3) := by decide +kernel
theorem dX7_happen_100 : decode cX7_happen 100 = .ok (.bipush 8, 2) := by decide +kernel
theorem dX7_happen_102 : decode cX7_happen 102 = .ok (.if_icmp .ne 9, 3) := by decide +kernel
theorem dX7_happen_105 : decode cX7_happen 105 = .ok (.aload_n 1, 1) := by decide +kernel
theorem dX7_happen_106 : decode cX7_happen 106 = .ok (.bipush 6, 2) := by decide +kernel
theorem dX7_happen_108 : decode cX7_happen 108 = .ok (.putfield 92, 3) := by decide +kernel
theorem dX7_happen_111 : decode cX7_happen 111 = .ok (.aload_n 1, 1) := by decide +kernel
theorem dX7_happen_112 : decode cX7_happen 112 = .ok (.invokevirtual 164, 3) := by decide +kernel
theorem dX7_happen_115 : decode cX7_happen 115 = .ok (.ifCond .eq 12, 3) := by decide +kernel
theorem dX7_happen_118 : decode cX7_happen 118 = .ok (.aload_n 0, 1) := by decide +kernel
theorem dX7_happen_119 : decode cX7_happen 119 = .ok (.aload_n 1, 1) := by decide +kernel
theorem dX7_happen_120 : decode cX7_happen 120 = .ok (.aload_n 1, 1) := by decide +kernel
theorem dX7_happen_121 : decode cX7_happen 121 = .ok (.getfield 92, 3) := by decide +kernel
theorem dX7_happen_124 : decode cX7_happen 124 = .ok (.invokevirtual 176, 3) := by decide +kernel
theorem dX7_happen_127 : decode cX7_happen 127 = .ok (.aload_n 1, 1) := by decide +kernel
theorem dX7_happen_128 : decode cX7_happen 128 = .ok (.areturn, 1) := by decide +kernel
theorem dX7_obey_0 : decode cX7_obey 0 = .ok (.aload_n 2, 1) := by decide +kernel
theorem dX7_obey_1 : decode cX7_obey 1 = .ok (.getfield 180, 3) := by decide +kernel
theorem dX7_obey_4 : decode cX7_obey 4 = .ok (.tableswitch 306 0 12 #[68, 101, 121, 141, 162, 183, 197, 213, 233, 244, 268, 277, 295], 68) := by decide +kernel
theorem dX7_obey_72 : decode cX7_obey 72 = .ok (.aload_n 0, 1) := by decide +kernel
theorem dX7_obey_73 : decode cX7_obey 73 = .ok (.aload_n 1, 1) := by decide +kernel
theorem dX7_obey_74 : decode cX7_obey 74 = .ok (.iconst 1, 1) := by decide +kernel
theorem dX7_obey_75 : decode cX7_obey 75 = .ok (.aload_n 2, 1) := by decide +kernel
theorem dX7_obey_76 : decode cX7_obey 76 = .ok (.getfield 185, 3) := by decide +kernel
theorem dX7_obey_79 : decode cX7_obey 79 = .ok (.aload_n 2, 1) := by decide +kernel
theorem dX7_obey_80 : decode cX7_obey 80 = .ok (.getfield 188, 3) := by decide +kernel
theorem dX7_obey_83 : decode cX7_obey 83 = .ok (.ifCond .ne 7, 3) := by decide +kernel
theorem dX7_obey_86 : decode cX7_obey 86 = .ok (.iconst 0, 1) := by decide +kernel
theorem dX7_obey_87 : decode cX7_obey 87 = .ok (.goto 11, 3) := by decide +kernel
theorem dX7_obey_90 : decode cX7_obey 90 = .ok (.aload_n 0, 1) := by decide +kernel
theorem dX7_obey_91 : decode cX7_obey 91 = .ok (.aload_n 2, 1) := by decide +kernel
theorem dX7_obey_92 : decode cX7_obey 92 = .ok (.getfield 188, 3) := by decide +kernel
theorem dX7_obey_95 : decode cX7_obey 95 = .ok (.invokevirtual 191, 3) := by decide +kernel
theorem dX7_obey_98 : decode cX7_obey 98 = .ok (.iadd, 1) := by decide +kernel
theorem dX7_obey_99 : decode cX7_obey 99 = .ok (.invokevirtual 88, 3) := by decide +kernel
theorem dX7_obey_102 : decode cX7_obey 102 = .ok (.goto 225, 3) := by decide +kernel
theorem dX7_obey_105 : decode cX7_obey 105 = .ok (.aload_n 0, 1) := by decide +kernel
theorem dX7_obey_106 : decode cX7_obey 106 = .ok (.aload_n 1, 1) := by decide +kernel
theorem dX7_obey_107 : decode cX7_obey 107 = .ok (.aload_n 0, 1) := by decide +kernel
theorem dX7_obey_108 : decode cX7_obey 108 = .ok (.aload_n 2, 1) := by decide +kernel
theorem dX7_obey_109 : decode cX7_obey 109 = .ok (.getfield 185, 3) := by decide +kernel
theorem dX7_obey_112 : decode cX7_obey 112 = .ok (.invokevirtual 194, 3) := by decide +kernel
theorem dX7_obey_115 : decode cX7_obey 115 = .ok (.aload_n 2, 1) := by decide +kernel
theorem dX7_obey_116 : decode cX7_obey 116 = .ok (.getfield 188, 3) := by decide +kernel
theorem dX7_obey_119 : decode cX7_obey 119 = .ok (.invokevirtual 198, 3) := by decide +kernel
theorem dX7_obey_122 : decode cX7_obey 122 = .ok (.goto 205, 3) := by decide +kernel
theorem dX7_obey_125 : decode cX7_obey 125 = .ok (.aload_n 0, 1) := by decide +kernel
theorem dX7_obey_126 : decode cX7_obey 126 = .ok (.aload_n 1, 1) := by decide +kernel
theorem dX7_obey_127 : decode cX7_obey 127 = .ok (.aload_n 0, 1) := by decide +kernel
theorem dX7_obey_128 : decode cX7_obey 128 = .ok (.aload_n 2, 1) := by decide +kernel
theorem dX7_obey_129 : decode cX7_obey 129 = .ok (.getfield 185, 3) := by decide +kernel
theorem dX7_obey_132 : decode cX7_obey 132 = .ok (.invokevirtual 194, 3) := by decide +kernel
theorem dX7_obey_135 : decode cX7_obey 135 = .ok (.aload_n 2, 1) := by decide +kernel
theorem dX7_obey_136 : decode cX7_obey 136 = .ok (.getfield 188, 3) := by decide +kernel
theorem dX7_obey_139 : decode cX7_obey 139 = .ok (.invokevirtual 113, 3) := by decide +kernel
theorem dX7_obey_142 : decode cX7_obey 142 = .ok (.goto 185, 3) := by decide +kernel
theorem dX7_obey_145 : decode cX7_obey 145 = .ok (.aload_n 0, 1) := by decide +kernel
theorem dX7_obey_146 : decode cX7_obey 146 = .ok (.aload_n 1, 1) := by decide +kernel
theorem dX7_obey_147 : decode cX7_obey 147 = .ok (.aload_n 0, 1) := by decide +kernel
theorem dX7_obey_148 : decode cX7_obey 148 = .ok (.aload_n 2, 1) := by decide +kernel
theorem dX7_obey_149 : decode cX7_obey 149 = .ok (.getfield 185, 3) := by decide +kernel
theorem dX7_obey_152 : decode cX7_obey 152 = .ok (.invokevirtual 201, 3) := by decide +kernel
theorem dX7_obey_155 : decode cX7_obey 155 = .ok (.aload_n 2, 1) := by decide +kernel
theorem dX7_obey_156 : decode cX7_obey 156 = .ok (.getfield 188, 3) := by decide +kernel
theorem dX7_obey_159 : decode cX7_obey 159 = .ok (.iconst 0, 1) := by decide +kernel
theorem dX7_obey_160 : decode cX7_obey 160 = .ok (.invokevirtual 205, 3) := by decide +kernel
theorem dX7_obey_163 : decode cX7_obey 163 = .ok (.goto 164, 3) := by decide +kernel
theorem dX7_obey_166 : decode cX7_obey 166 = .ok (.aload_n 0, 1) := by decide +kernel
theorem dX7_obey_167 : decode cX7_obey 167 = .ok (.aload_n 1, 1) := by decide +kernel
theorem dX7_obey_168 : decode cX7_obey 168 = .ok (.aload_n 0, 1) := by decide +kernel
theorem dX7_obey_169 : decode cX7_obey 169 = .ok (.aload_n 2, 1) := by decide +kernel
theorem dX7_obey_170 : decode cX7_obey 170 = .ok (.getfield 185, 3) := by decide +kernel
theorem dX7_obey_173 : decode cX7_obey 173 = .ok (.invokevirtual 201, 3) := by decide +kernel
theorem dX7_obey_176 : decode cX7_obey 176 = .ok (.aload_n 2, 1) := by decide +kernel
theorem dX7_obey_177 : decode cX7_obey 177 = .ok (.getfield 188, 3) := by decide +kernel
theorem dX7_obey_180 : decode cX7_obey 180 = .ok (.iconst 1, 1) := by decide +kernel
theorem dX7_obey_181 : decode cX7_obey 181 = .ok (.invokevirtual 205, 3) := by decide +kernel
theorem dX7_obey_184 : decode cX7_obey 184 = .ok (.goto 143, 3) := by decide +kernel
theorem dX7_obey_187 : decode cX7_obey 187 = .ok (.aload_n 0, 1) := by decide +kernel
theorem dX7_obey_188 : decode cX7_obey 188 = .ok (.bipush 14, 2) := by decide +kernel
theorem dX7_obey_190 : decode cX7_obey 190 = .ok (.aload_n 2, 1) := by decide +kernel
theorem dX7_obey_191 : decode cX7_obey 191 = .ok (.getfield 185, 3) := by decide +kernel
theorem dX7_obey_194 : decode cX7_obey 194 = .ok (.iadd, 1) := by decide +kernel
theorem dX7_obey_195 : decode cX7_obey 195 = .ok (.invokevirtual 209, 3) := by decide +kernel
theorem dX7_obey_198 : decode cX7_obey 198 = .ok (.goto 129, 3) := by decide +kernel
theorem dX7_obey_201 : decode cX7_obey 201 = .ok (.aload_n 0, 1) := by decide +kernel
theorem dX7_obey_202 : decode cX7_obey 202 = .ok (.aload_n 1, 1) := by decide +kernel
theorem dX7_obey_203 : decode cX7_obey 203 = .ok (.bipush 14, 2) := by decide +kernel
theorem dX7_obey_205 : decode cX7_obey 205 = .ok (.aload_n 2, 1) := by decide +kernel
theorem dX7_obey_206 : decode cX7_obey 206 = .ok (.getfield 185, 3) := by decide +kernel
theorem dX7_obey_209 : decode cX7_obey 209 = .ok (.iadd, 1) := by decide +kernel
theorem dX7_obey_210 : decode cX7_obey 210 = .ok (.iconst 4, 1) := by decide +kernel
theorem dX7_obey_211 : decode cX7_obey 211 = .ok (.invokevirtual 212, 3) := by decide +kernel
theorem dX7_obey_214 : decode cX7_obey 214 = .ok (.goto 113, 3) := by decide +kernel
theorem dX7_obey_217 : decode cX7_obey 217 = .ok (.aload_n 0, 1) := by decide +kernel
theorem dX7_obey_218 : decode cX7_obey 218 = .ok (.aload_n 0, 1) := by decide +kernel
theorem dX7_obey_219 : decode cX7_obey 219 = .ok (.aload_n 2, 1) := by decide +kernel
theorem dX7_obey_220 : decode cX7_obey 220 = .ok (.getfield 185, 3) := by decide +kernel
theorem dX7_obey_223 : decode cX7_obey 223 = .ok (.invokevirtual 215, 3) := by decide +kernel
theorem dX7_obey_226 : decode cX7_obey 226 = .ok (.aload_n 2, 1) := by decide +kernel
theorem dX7_obey_227 : decode cX7_obey 227 = .ok (.getfield 188, 3) := by decide +kernel
theorem dX7_obey_230 : decode cX7_obey 230 = .ok (.iconst 0, 1) := by decide +kernel
theorem dX7_obey_231 : decode cX7_obey 231 = .ok (.invokevirtual 218, 3) := by decide +kernel
theorem dX7_obey_234 : decode cX7_obey 234 = .ok (.goto 93, 3) := by decide +kernel
theorem dX7_obey_237 : decode cX7_obey 237 = .ok (.aload_n 1, 1) := by decide +kernel
theorem dX7_obey_238 : decode cX7_obey 238 = .ok (.aload_n 0, 1) := by decide +kernel
theorem dX7_obey_239 : decode cX7_obey 239 = .ok (.getfield 40, 3) := by decide +kernel
theorem dX7_obey_242 : decode cX7_obey 242 = .ok (.putfield 85, 3) := by decide +kernel
theorem dX7_obey_245 : decode cX7_obey 245 = .ok (.goto 82, 3) := by decide +kernel
theorem dX7_obey_248 : decode cX7_obey 248 = .ok (.aload_n 0, 1) := by decide +kernel
theorem dX7_obey_249 : decode cX7_obey 249 = .ok (.aload_n 0, 1) := by decide +kernel
theorem dX7_obey_250 : decode cX7_obey 250 = .ok (.aload_n 2, 1) := by decide +kernel
theorem dX7_obey_251 : decode cX7_obey 251 = .ok (.getfield 185, 3) := by decide +kernel
theorem dX7_obey_254 : decode cX7_obey 254 = .ok (.invokevirtual 222, 3) := by decide +kernel
theorem dX7_obey_257 : decode cX7_obey 257 = .ok (.aload_n 0, 1) := by decide +kernel
theorem dX7_obey_258 : decode cX7_obey 258 = .ok (.getfield 40, 3) := by decide +kernel
theorem dX7_obey_261 : decode cX7_obey 261 = .ok (.aload_n 1, 1) := by decide +kernel
theorem dX7_obey_262 : decode cX7_obey 262 = .ok (.getfield 85, 3) := by decide +kernel
theorem dX7_obey_265 : decode cX7_obey 265 = .ok (.isub, 1) := by decide +kernel
theorem dX7_obey_266 : decode cX7_obey 266 = .ok (.invokevirtual 226, 3) := by decide +kernel
theorem dX7_obey_269 : decode cX7_obey 269 = .ok (.goto 58, 3) := by decide +kernel
theorem dX7_obey_272 : decode cX7_obey 272 = .ok (.aload_n 0, 1) := by decide +kernel
theorem dX7_obey_273 : decode cX7_obey 273 = .ok (.aload_n 1, 1) := by decide +kernel
theorem dX7_obey_274 : decode cX7_obey 274 = .ok (.aload_n 2, 1) := by decide +kernel
theorem dX7_obey_275 : decode cX7_obey 275 = .ok (.invokevirtual 230, 3) := by decide +kernel
theorem dX7_obey_278 : decode cX7_obey 278 = .ok (.goto 49, 3) := by decide +kernel
theorem dX7_obey_281 : decode cX7_obey 281 = .ok (.aload_n 0, 1) := by decide +kernel
theorem dX7_obey_282 : decode cX7_obey 282 = .ok (.aload_n 1, 1) := by decide +kernel
theorem dX7_obey_283 : decode cX7_obey 283 = .ok (.iconst 1, 1) := by decide +kernel
theorem dX7_obey_284 : decode cX7_obey 284 = .ok (.aload_n 1, 1) := by decide +kernel
theorem dX7_obey_285 : decode cX7_obey 285 = .ok (.getfield 101, 3) := by decide +kernel
theorem dX7_obey_288 : decode cX7_obey 288 = .ok (.invokevirtual 88, 3) := by decide +kernel
theorem dX7_obey_291 : decode cX7_obey 291 = .ok (.aload_n 1, 1) := by decide +kernel
theorem dX7_obey_292 : decode cX7_obey 292 = .ok (.iconst 0, 1) := by decide +kernel
theorem dX7_obey_293 : decode cX7_obey 293 = .ok (.putfield 101, 3) := by decide +kernel
theorem dX7_obey_296 : decode cX7_obey 296 = .ok (.goto 31, 3) := by decide +kernel
theorem dX7_obey_299 : decode cX7_obey 299 = .ok (.aload_n 1, 1) := by decide +kernel
theorem dX7_obey_300 : decode cX7_obey 300 = .ok (.aload_n 2, 1) := by decide +kernel
theorem dX7_obey_301 : decode cX7_obey 301 = .ok (.getfield 185, 3) := by decide +kernel
theorem dX7_obey_304 : decode cX7_obey 304 = .ok (.putfield 82, 3) := by decide +kernel
theorem dX7_obey_307 : decode cX7_obey 307 = .ok (.goto 20, 3) := by decide +kernel
theorem dX7_obey_310 : decode cX7_obey 310 = .ok (.aload_n 0, 1) := by decide +kernel
theorem dX7_obey_311 : decode cX7_obey 311 = .ok (.aload_n 1, 1) := by decide +kernel
theorem dX7_obey_312 : decode cX7_obey 312 = .ok (.aload_n 0, 1) := by decide +kernel
theorem dX7_obey_313 : decode cX7_obey 313 = .ok (.aload_n 2, 1) := by decide +kernel
theorem dX7_obey_314 : decode cX7_obey 314 = .ok (.getfield 185, 3) := by decide +kernel
theorem dX7_obey_317 : decode cX7_obey 317 = .ok (.invokevirtual 201, 3) := by decide +kernel
theorem dX7_obey_320 : decode cX7_obey 320 = .ok (.aload_n 2, 1) := by decide +kernel
theorem dX7_obey_321 : decode cX7_obey 321 = .ok (.getfield 188, 3) := by decide +kernel
theorem dX7_obey_324 : decode cX7_obey 324 = .ok (.invokevirtual 233, 3) := by decide +kernel
theorem dX7_obey_327 : decode cX7_obey 327 = .ok (.return_, 1) := by decide +kernel
theorem dX7_drawBelow_0 : decode cX7_drawBelow 0 = .ok (.aload_n 0, 1) := by decide +kernel
theorem dX7_drawBelow_1 : decode cX7_drawBelow 1 = .ok (.aload_n 0, 1) := by decide +kernel
theorem dX7_drawBelow_2 : decode cX7_drawBelow 2 = .ok (.getfield 43, 3) := by decide +kernel
theorem dX7_drawBelow_5 : decode cX7_drawBelow 5 = .ok (.sipush 4621, 3) := by decide +kernel
theorem dX7_drawBelow_8 : decode cX7_drawBelow 8 = .ok (.imul, 1) := by decide +kernel
theorem dX7_drawBelow_9 : decode cX7_drawBelow 9 = .ok (.sipush 2777, 3) := by decide +kernel
theorem dX7_drawBelow_12 : decode cX7_drawBelow 12 = .ok (.iadd, 1) := by decide +kernel
theorem dX7_drawBelow_13 : decode cX7_drawBelow 13 = .ok (.sipush 10000, 3) := by decide +kernel
theorem dX7_drawBelow_16 : decode cX7_drawBelow 16 = .ok (.irem, 1) := by decide +kernel
theorem dX7_drawBelow_17 : decode cX7_drawBelow 17 = .ok (.putfield 43, 3) := by decide +kernel
theorem dX7_drawBelow_20 : decode cX7_drawBelow 20 = .ok (.iload_n 1, 1) := by decide +kernel
theorem dX7_drawBelow_21 : decode cX7_drawBelow 21 = .ok (.ifCond .le 12, 3) := by decide +kernel
theorem dX7_drawBelow_24 : decode cX7_drawBelow 24 = .ok (.aload_n 0, 1) := by decide +kernel
theorem dX7_drawBelow_25 : decode cX7_drawBelow 25 = .ok (.getfield 43, 3) := by decide +kernel
theorem dX7_drawBelow_28 : decode cX7_drawBelow 28 = .ok (.iload_n 1, 1) := by decide +kernel
theorem dX7_drawBelow_29 : decode cX7_drawBelow 29 = .ok (.irem, 1) := by decide +kernel
theorem dX7_drawBelow_30 : decode cX7_drawBelow 30 = .ok (.goto 4, 3) := by decide +kernel
theorem dX7_drawBelow_33 : decode cX7_drawBelow 33 = .ok (.iconst 0, 1) := by decide +kernel
theorem dX7_drawBelow_34 : decode cX7_drawBelow 34 = .ok (.ireturn, 1) := by decide +kernel
theorem dX7_wakeAll_0 : decode cX7_wakeAll 0 = .ok (.iconst 0, 1) := by decide +kernel
theorem dX7_wakeAll_1 : decode cX7_wakeAll 1 = .ok (.istore_n 2, 1) := by decide +kernel
theorem dX7_wakeAll_2 : decode cX7_wakeAll 2 = .ok (.iload_n 2, 1) := by decide +kernel
theorem dX7_wakeAll_3 : decode cX7_wakeAll 3 = .ok (.bipush 24, 2) := by decide +kernel
theorem dX7_wakeAll_5 : decode cX7_wakeAll 5 = .ok (.if_icmp .ge 32, 3) := by decide +kernel
theorem dX7_wakeAll_8 : decode cX7_wakeAll 8 = .ok (.aload_n 0, 1) := by decide +kernel
theorem dX7_wakeAll_9 : decode cX7_wakeAll 9 = .ok (.iload_n 1, 1) := by decide +kernel
theorem dX7_wakeAll_10 : decode cX7_wakeAll 10 = .ok (.invokevirtual 237, 3) := by decide +kernel
theorem dX7_wakeAll_13 : decode cX7_wakeAll 13 = .ok (.astore_n 3, 1) := by decide +kernel
theorem dX7_wakeAll_14 : decode cX7_wakeAll 14 = .ok (.aload_n 3, 1) := by decide +kernel
theorem dX7_wakeAll_15 : decode cX7_wakeAll 15 = .ok (.ifnonnull 4, 3) := by decide +kernel
theorem dX7_wakeAll_18 : decode cX7_wakeAll 18 = .ok (.return_, 1) := by decide +kernel
theorem dX7_wakeAll_19 : decode cX7_wakeAll 19 = .ok (.aload_n 3, 1) := by decide +kernel
theorem dX7_wakeAll_20 : decode cX7_wakeAll 20 = .ok (.iconst (-1), 1) := by decide +kernel
theorem dX7_wakeAll_21 : decode cX7_wakeAll 21 = .ok (.putfield 240, 3) := by decide +kernel
theorem dX7_wakeAll_24 : decode cX7_wakeAll 24 = .ok (.aload_n 0, 1) := by decide +kernel
theorem dX7_wakeAll_25 : decode cX7_wakeAll 25 = .ok (.aload_n 3, 1) := by decide +kernel
theorem dX7_wakeAll_26 : decode cX7_wakeAll 26 = .ok (.iconst 0, 1) := by decide +kernel
theorem dX7_wakeAll_27 : decode cX7_wakeAll 27 = .ok (.iconst 0, 1) := by decide +kernel
theorem dX7_wakeAll_28 : decode cX7_wakeAll 28 = .ok (.invokevirtual 88, 3) := by decide +kernel
theorem dX7_wakeAll_31 : decode cX7_wakeAll 31 = .ok (.iinc 2 1, 3) := by decide +kernel
theorem dX7_wakeAll_34 : decode cX7_wakeAll 34 = .ok (.goto (-32), 3) := by decide +kernel
theorem dX7_wakeAll_37 : decode cX7_wakeAll 37 = .ok (.return_, 1) := by decide +kernel
theorem dX7_tell_0 : decode cX7_tell 0 = .ok (.aload_n 1, 1) := by decide +kernel
theorem dX7_tell_1 : decode cX7_tell 1 = .ok (.ifnull 8, 3) := by decide +kernel
theorem dX7_tell_4 : decode cX7_tell 4 = .ok (.aload_n 1, 1) := by decide +kernel
theorem dX7_tell_5 : decode cX7_tell 5 = .ok (.iload_n 2, 1) := by decide +kernel
theorem dX7_tell_6 : decode cX7_tell 6 = .ok (.invokevirtual 243, 3) := by decide +kernel
theorem dX7_tell_9 : decode cX7_tell 9 = .ok (.return_, 1) := by decide +kernel
theorem dX7_goAgain_0 : decode cX7_goAgain 0 = .ok (.aload_n 1, 1) := by decide +kernel
theorem dX7_goAgain_1 : decode cX7_goAgain 1 = .ok (.getfield 246, 3) := by decide +kernel
theorem dX7_goAgain_4 : decode cX7_goAgain 4 = .ok (.aload_n 2, 1) := by decide +kernel
theorem dX7_goAgain_5 : decode cX7_goAgain 5 = .ok (.getfield 250, 3) := by decide +kernel
theorem dX7_goAgain_8 : decode cX7_goAgain 8 = .ok (.invokestatic 251, 3) := by decide +kernel
theorem dX7_goAgain_11 : decode cX7_goAgain 11 = .ok (.istore_n 3, 1) := by decide +kernel
theorem dX7_goAgain_12 : decode cX7_goAgain 12 = .ok (.iload_n 3, 1) := by decide +kernel
theorem dX7_goAgain_13 : decode cX7_goAgain 13 = .ok (.aload_n 2, 1) := by decide +kernel
theorem dX7_goAgain_14 : decode cX7_goAgain 14 = .ok (.getfield 188, 3) := by decide +kernel
theorem dX7_goAgain_17 : decode cX7_goAgain 17 = .ok (.if_icmp .ge 28, 3) := by decide +kernel
theorem dX7_goAgain_20 : decode cX7_goAgain 20 = .ok (.aload_n 1, 1) := by decide +kernel
theorem dX7_goAgain_21 : decode cX7_goAgain 21 = .ok (.getfield 246, 3) := by decide +kernel
theorem dX7_goAgain_24 : decode cX7_goAgain 24 = .ok (.aload_n 2, 1) := by decide +kernel
theorem dX7_goAgain_25 : decode cX7_goAgain 25 = .ok (.getfield 250, 3) := by decide +kernel
theorem dX7_goAgain_28 : decode cX7_goAgain 28 = .ok (.iload_n 3, 1) := by decide +kernel
theorem dX7_goAgain_29 : decode cX7_goAgain 29 = .ok (.iconst 1, 1) := by decide +kernel
theorem dX7_goAgain_30 : decode cX7_goAgain 30 = .ok (.iadd, 1) := by decide +kernel
theorem dX7_goAgain_31 : decode cX7_goAgain 31 = .ok (.invokestatic 255, 3) := by decide +kernel
theorem dX7_goAgain_34 : decode cX7_goAgain 34 = .ok (.aload_n 1, 1) := by decide +kernel
theorem dX7_goAgain_35 : decode cX7_goAgain 35 = .ok (.aload_n 2, 1) := by decide +kernel
theorem dX7_goAgain_36 : decode cX7_goAgain 36 = .ok (.getfield 185, 3) := by decide +kernel
theorem dX7_goAgain_39 : decode cX7_goAgain 39 = .ok (.putfield 110, 3) := by decide +kernel
theorem dX7_goAgain_42 : decode cX7_goAgain 42 = .ok (.goto 15, 3) := by decide +kernel
theorem dX7_goAgain_45 : decode cX7_goAgain 45 = .ok (.aload_n 1, 1) := by decide +kernel
theorem dX7_goAgain_46 : decode cX7_goAgain 46 = .ok (.getfield 246, 3) := by decide +kernel
theorem dX7_goAgain_49 : decode cX7_goAgain 49 = .ok (.aload_n 2, 1) := by decide +kernel
theorem dX7_goAgain_50 : decode cX7_goAgain 50 = .ok (.getfield 250, 3) := by decide +kernel
theorem dX7_goAgain_53 : decode cX7_goAgain 53 = .ok (.iconst 0, 1) := by decide +kernel
theorem dX7_goAgain_54 : decode cX7_goAgain 54 = .ok (.invokestatic 255, 3) := by decide +kernel
theorem dX7_goAgain_57 : decode cX7_goAgain 57 = .ok (.return_, 1) := by decide +kernel
theorem dX7_skip_0 : decode cX7_skip 0 = .ok (.aload_n 2, 1) := by decide +kernel
theorem dX7_skip_1 : decode cX7_skip 1 = .ok (.ifnull 21, 3) := by decide +kernel
theorem dX7_skip_4 : decode cX7_skip 4 = .ok (.aload_n 2, 1) := by decide +kernel
theorem dX7_skip_5 : decode cX7_skip 5 = .ok (.getfield 147, 3) := by decide +kernel
theorem dX7_skip_8 : decode cX7_skip 8 = .ok (.iload_n 3, 1) := by decide +kernel
theorem dX7_skip_9 : decode cX7_skip 9 = .ok (.if_icmp .ge 13, 3) := by decide +kernel
theorem dX7_skip_12 : decode cX7_skip 12 = .ok (.aload_n 1, 1) := by decide +kernel
theorem dX7_skip_13 : decode cX7_skip 13 = .ok (.dup, 1) := by decide +kernel
theorem dX7_skip_14 : decode cX7_skip 14 = .ok (.getfield 110, 3) := by decide +kernel
theorem dX7_skip_17 : decode cX7_skip 17 = .ok (.iconst 1, 1) := by decide +kernel
theorem dX7_skip_18 : decode cX7_skip 18 = .ok (.iadd, 1) := by decide +kernel
theorem dX7_skip_19 : decode cX7_skip 19 = .ok (.putfield 110, 3) := by decide +kernel
theorem dX7_skip_22 : decode cX7_skip 22 = .ok (.return_, 1) := by decide +kernel
theorem dX7_enter_0 : decode cX7_enter 0 = .ok (.aload_n 0, 1) := by decide +kernel
theorem dX7_enter_1 : decode cX7_enter 1 = .ok (.dup, 1) := by decide +kernel
theorem dX7_enter_2 : decode cX7_enter 2 = .ok (.getfield 49, 3) := by decide +kernel
theorem dX7_enter_5 : decode cX7_enter 5 = .ok (.iconst 1, 1) := by decide +kernel
theorem dX7_enter_6 : decode cX7_enter 6 = .ok (.iadd, 1) := by decide +kernel
theorem dX7_enter_7 : decode cX7_enter 7 = .ok (.putfield 49, 3) := by decide +kernel
theorem dX7_enter_10 : decode cX7_enter 10 = .ok (.aload_n 1, 1) := by decide +kernel
theorem dX7_enter_11 : decode cX7_enter 11 = .ok (.iload_n 2, 1) := by decide +kernel
theorem dX7_enter_12 : decode cX7_enter 12 = .ok (.putfield 240, 3) := by decide +kernel
theorem dX7_enter_15 : decode cX7_enter 15 = .ok (.aload_n 1, 1) := by decide +kernel
theorem dX7_enter_16 : decode cX7_enter 16 = .ok (.iconst 0, 1) := by decide +kernel
theorem dX7_enter_17 : decode cX7_enter 17 = .ok (.putfield 259, 3) := by decide +kernel
theorem dX7_enter_20 : decode cX7_enter 20 = .ok (.aload_n 1, 1) := by decide +kernel
theorem dX7_enter_21 : decode cX7_enter 21 = .ok (.aload_n 0, 1) := by decide +kernel
theorem dX7_enter_22 : decode cX7_enter 22 = .ok (.getfield 49, 3) := by decide +kernel
theorem dX7_enter_25 : decode cX7_enter 25 = .ok (.putfield 262, 3) := by decide +kernel
theorem dX7_enter_28 : decode cX7_enter 28 = .ok (.aload_n 1, 1) := by decide +kernel
theorem dX7_enter_29 : decode cX7_enter 29 = .ok (.iload_n 3, 1) := by decide +kernel
theorem dX7_enter_30 : decode cX7_enter 30 = .ok (.putfield 92, 3) := by decide +kernel
theorem dX7_enter_33 : decode cX7_enter 33 = .ok (.return_, 1) := by decide +kernel
theorem dX7_leave_0 : decode cX7_leave 0 = .ok (.aload_n 1, 1) := by decide +kernel
theorem dX7_leave_1 : decode cX7_leave 1 = .ok (.getfield 240, 3) := by decide +kernel
theorem dX7_leave_4 : decode cX7_leave 4 = .ok (.istore_n 2, 1) := by decide +kernel
theorem dX7_leave_5 : decode cX7_leave 5 = .ok (.aload_n 1, 1) := by decide +kernel
theorem dX7_leave_6 : decode cX7_leave 6 = .ok (.iconst (-1), 1) := by decide +kernel
theorem dX7_leave_7 : decode cX7_leave 7 = .ok (.putfield 240, 3) := by decide +kernel
theorem dX7_leave_10 : decode cX7_leave 10 = .ok (.aload_n 0, 1) := by decide +kernel
theorem dX7_leave_11 : decode cX7_leave 11 = .ok (.aload_n 0, 1) := by decide +kernel
theorem dX7_leave_12 : decode cX7_leave 12 = .ok (.iload_n 2, 1) := by decide +kernel
theorem dX7_leave_13 : decode cX7_leave 13 = .ok (.invokevirtual 194, 3) := by decide +kernel
theorem dX7_leave_16 : decode cX7_leave 16 = .ok (.invokevirtual 265, 3) := by decide +kernel
theorem dX7_leave_19 : decode cX7_leave 19 = .ok (.aload_n 0, 1) := by decide +kernel
theorem dX7_leave_20 : decode cX7_leave 20 = .ok (.iload_n 2, 1) := by decide +kernel
theorem dX7_leave_21 : decode cX7_leave 21 = .ok (.bipush 10, 2) := by decide +kernel
theorem dX7_leave_23 : decode cX7_leave 23 = .ok (.if_icmp .ge 14, 3) := by decide +kernel
theorem dX7_leave_26 : decode cX7_leave 26 = .ok (.aload_n 0, 1) := by decide +kernel
theorem dX7_leave_27 : decode cX7_leave 27 = .ok (.iload_n 2, 1) := by decide +kernel
theorem dX7_leave_28 : decode cX7_leave 28 = .ok (.bipush 6, 2) := by decide +kernel
theorem dX7_leave_30 : decode cX7_leave 30 = .ok (.isub, 1) := by decide +kernel
theorem dX7_leave_31 : decode cX7_leave 31 = .ok (.invokevirtual 201, 3) := by decide +kernel
theorem dX7_leave_34 : decode cX7_leave 34 = .ok (.goto 11, 3) := by decide +kernel
theorem dX7_leave_37 : decode cX7_leave 37 = .ok (.aload_n 0, 1) := by decide +kernel
theorem dX7_leave_38 : decode cX7_leave 38 = .ok (.iload_n 2, 1) := by decide +kernel
theorem dX7_leave_39 : decode cX7_leave 39 = .ok (.bipush 10, 2) := by decide +kernel
theorem dX7_leave_41 : decode cX7_leave 41 = .ok (.isub, 1) := by decide +kernel
theorem dX7_leave_42 : decode cX7_leave 42 = .ok (.invokevirtual 201, 3) := by decide +kernel
theorem dX7_leave_45 : decode cX7_leave 45 = .ok (.invokevirtual 268, 3) := by decide +kernel
theorem dX7_leave_48 : decode cX7_leave 48 = .ok (.return_, 1) := by decide +kernel
theorem dX7_countIn_0 : decode cX7_countIn 0 = .ok (.iconst 0, 1) := by decide +kernel
theorem dX7_countIn_1 : decode cX7_countIn 1 = .ok (.istore_n 2, 1) := by decide +kernel
theorem dX7_countIn_2 : decode cX7_countIn 2 = .ok (.aload_n 0, 1) := by decide +kernel
theorem dX7_countIn_3 : decode cX7_countIn 3 = .ok (.getfield 23, 3) := by decide +kernel
theorem dX7_countIn_6 : decode cX7_countIn 6 = .ok (.astore_n 3, 1) := by decide +kernel
theorem dX7_countIn_7 : decode cX7_countIn 7 = .ok (.aload_n 3, 1) := by decide +kernel
theorem dX7_countIn_8 : decode cX7_countIn 8 = .ok (.arraylength, 1) := by decide +kernel
theorem dX7_countIn_9 : decode cX7_countIn 9 = .ok (.istore 4, 2) := by decide +kernel
theorem dX7_countIn_11 : decode cX7_countIn 11 = .ok (.iconst 0, 1) := by decide +kernel
theorem dX7_countIn_12 : decode cX7_countIn 12 = .ok (.istore 5, 2) := by decide +kernel
theorem dX7_countIn_14 : decode cX7_countIn 14 = .ok (.iload 5, 2) := by decide +kernel
theorem dX7_countIn_16 : decode cX7_countIn 16 = .ok (.iload 4, 2) := by decide +kernel
theorem dX7_countIn_18 : decode cX7_countIn 18 = .ok (.if_icmp .ge 27, 3) := by decide +kernel
theorem dX7_countIn_21 : decode cX7_countIn 21 = .ok (.aload_n 3, 1) := by decide +kernel
theorem dX7_countIn_22 : decode cX7_countIn 22 = .ok (.iload 5, 2) := by decide +kernel
theorem dX7_countIn_24 : decode cX7_countIn 24 = .ok (.aaload, 1) := by decide +kernel
theorem dX7_countIn_25 : decode cX7_countIn 25 = .ok (.astore 6, 2) := by decide +kernel
theorem dX7_countIn_27 : decode cX7_countIn 27 = .ok (.aload 6, 2) := by decide +kernel
theorem dX7_countIn_29 : decode cX7_countIn 29 = .ok (.getfield 240, 3) := by decide +kernel
theorem dX7_countIn_32 : decode cX7_countIn 32 = .ok (.iload_n 1, 1) := by decide +kernel
theorem dX7_countIn_33 : decode cX7_countIn 33 = .ok (.if_icmp .ne 6, 3) := by decide +kernel
theorem dX7_countIn_36 : decode cX7_countIn 36 = .ok (.iinc 2 1, 3) := by decide +kernel
theorem dX7_countIn_39 : decode cX7_countIn 39 = .ok (.iinc 5 1, 3) := by decide +kernel
theorem dX7_countIn_42 : decode cX7_countIn 42 = .ok (.goto (-28), 3) := by decide +kernel
theorem dX7_countIn_45 : decode cX7_countIn 45 = .ok (.iload_n 2, 1) := by decide +kernel
theorem dX7_countIn_46 : decode cX7_countIn 46 = .ok (.ireturn, 1) := by decide +kernel
theorem dX7_firstIn_0 : decode cX7_firstIn 0 = .ok (.aconst_null, 1) := by decide +kernel
theorem dX7_firstIn_1 : decode cX7_firstIn 1 = .ok (.astore_n 2, 1) := by decide +kernel
theorem dX7_firstIn_2 : decode cX7_firstIn 2 = .ok (.aload_n 0, 1) := by decide +kernel
theorem dX7_firstIn_3 : decode cX7_firstIn 3 = .ok (.getfield 23, 3) := by decide +kernel
theorem dX7_firstIn_6 : decode cX7_firstIn 6 = .ok (.astore_n 3, 1) := by decide +kernel
theorem dX7_firstIn_7 : decode cX7_firstIn 7 = .ok (.aload_n 3, 1) := by decide +kernel
theorem dX7_firstIn_8 : decode cX7_firstIn 8 = .ok (.arraylength, 1) := by decide +kernel
theorem dX7_firstIn_9 : decode cX7_firstIn 9 = .ok (.istore 4, 2) := by decide +kernel
theorem dX7_firstIn_11 : decode cX7_firstIn 11 = .ok (.iconst 0, 1) := by decide +kernel
theorem dX7_firstIn_12 : decode cX7_firstIn 12 = .ok (.istore 5, 2) := by decide +kernel
theorem dX7_firstIn_14 : decode cX7_firstIn 14 = .ok (.iload 5, 2) := by decide +kernel
theorem dX7_firstIn_16 : decode cX7_firstIn 16 = .ok (.iload 4, 2) := by decide +kernel
theorem dX7_firstIn_18 : decode cX7_firstIn 18 = .ok (.if_icmp .ge 40, 3) := by decide +kernel
theorem dX7_firstIn_21 : decode cX7_firstIn 21 = .ok (.aload_n 3, 1) := by decide +kernel
theorem dX7_firstIn_22 : decode cX7_firstIn 22 = .ok (.iload 5, 2) := by decide +kernel
theorem dX7_firstIn_24 : decode cX7_firstIn 24 = .ok (.aaload, 1) := by decide +kernel
theorem dX7_firstIn_25 : decode cX7_firstIn 25 = .ok (.astore 6, 2) := by decide +kernel
theorem dX7_firstIn_27 : decode cX7_firstIn 27 = .ok (.aload 6, 2) := by decide +kernel
theorem dX7_firstIn_29 : decode cX7_firstIn 29 = .ok (.getfield 240, 3) := by decide +kernel
theorem dX7_firstIn_32 : decode cX7_firstIn 32 = .ok (.iload_n 1, 1) := by decide +kernel
theorem dX7_firstIn_33 : decode cX7_firstIn 33 = .ok (.if_icmp .ne 19, 3) := by decide +kernel
theorem dX7_firstIn_36 : decode cX7_firstIn 36 = .ok (.aload_n 2, 1) := by decide +kernel
theorem dX7_firstIn_37 : decode cX7_firstIn 37 = .ok (.ifnull 12, 3) := by decide +kernel
theorem dX7_firstIn_40 : decode cX7_firstIn 40 = .ok (.aload 6, 2) := by decide +kernel
theorem dX7_firstIn_42 : decode cX7_firstIn 42 = .ok (.aload_n 2, 1) := by decide +kernel
theorem dX7_firstIn_43 : decode cX7_firstIn 43 = .ok (.invokevirtual 271, 3) := by decide +kernel
theorem dX7_firstIn_46 : decode cX7_firstIn 46 = .ok (.ifCond .eq 6, 3) := by decide +kernel
theorem dX7_firstIn_49 : decode cX7_firstIn 49 = .ok (.aload 6, 2) := by decide +kernel
theorem dX7_firstIn_51 : decode cX7_firstIn 51 = .ok (.astore_n 2, 1) := by decide +kernel
theorem dX7_firstIn_52 : decode cX7_firstIn 52 = .ok (.iinc 5 1, 3) := by decide +kernel
theorem dX7_firstIn_55 : decode cX7_firstIn 55 = .ok (.goto (-41), 3) := by decide +kernel
theorem dX7_firstIn_58 : decode cX7_firstIn 58 = .ok (.aload_n 2, 1) := by decide +kernel
theorem dX7_firstIn_59 : decode cX7_firstIn 59 = .ok (.areturn, 1) := by decide +kernel
theorem dX7_inRowAt_0 : decode cX7_inRowAt 0 = .ok (.aload_n 0, 1) := by decide +kernel
theorem dX7_inRowAt_1 : decode cX7_inRowAt 1 = .ok (.getfield 23, 3) := by decide +kernel
theorem dX7_inRowAt_4 : decode cX7_inRowAt 4 = .ok (.astore_n 3, 1) := by decide +kernel
theorem dX7_inRowAt_5 : decode cX7_inRowAt 5 = .ok (.aload_n 3, 1) := by decide +kernel
theorem dX7_inRowAt_6 : decode cX7_inRowAt 6 = .ok (.arraylength, 1) := by decide +kernel
theorem dX7_inRowAt_7 : decode cX7_inRowAt 7 = .ok (.istore 4, 2) := by decide +kernel
theorem dX7_inRowAt_9 : decode cX7_inRowAt 9 = .ok (.iconst 0, 1) := by decide +kernel
theorem dX7_inRowAt_10 : decode cX7_inRowAt 10 = .ok (.istore 5, 2) := by decide +kernel
theorem dX7_inRowAt_12 : decode cX7_inRowAt 12 = .ok (.iload 5, 2) := by decide +kernel
theorem dX7_inRowAt_14 : decode cX7_inRowAt 14 = .ok (.iload 4, 2) := by decide +kernel
theorem dX7_inRowAt_16 : decode cX7_inRowAt 16 = .ok (.if_icmp .ge 37, 3) := by decide +kernel
theorem dX7_inRowAt_19 : decode cX7_inRowAt 19 = .ok (.aload_n 3, 1) := by decide +kernel
theorem dX7_inRowAt_20 : decode cX7_inRowAt 20 = .ok (.iload 5, 2) := by decide +kernel
theorem dX7_inRowAt_22 : decode cX7_inRowAt 22 = .ok (.aaload, 1) := by decide +kernel
theorem dX7_inRowAt_23 : decode cX7_inRowAt 23 = .ok (.astore 6, 2) := by decide +kernel
theorem dX7_inRowAt_25 : decode cX7_inRowAt 25 = .ok (.aload 6, 2) := by decide +kernel
theorem dX7_inRowAt_27 : decode cX7_inRowAt 27 = .ok (.getfield 240, 3) := by decide +kernel
theorem dX7_inRowAt_30 : decode cX7_inRowAt 30 = .ok (.iload_n 1, 1) := by decide +kernel
theorem dX7_inRowAt_31 : decode cX7_inRowAt 31 = .ok (.if_icmp .ne 16, 3) := by decide +kernel
theorem dX7_inRowAt_34 : decode cX7_inRowAt 34 = .ok (.aload_n 0, 1) := by decide +kernel
theorem dX7_inRowAt_35 : decode cX7_inRowAt 35 = .ok (.aload 6, 2) := by decide +kernel
theorem dX7_inRowAt_37 : decode cX7_inRowAt 37 = .ok (.invokevirtual 274, 3) := by decide +kernel
theorem dX7_inRowAt_40 : decode cX7_inRowAt 40 = .ok (.iload_n 2, 1) := by decide +kernel
theorem dX7_inRowAt_41 : decode cX7_inRowAt 41 = .ok (.if_icmp .ne 6, 3) := by decide +kernel
theorem dX7_inRowAt_44 : decode cX7_inRowAt 44 = .ok (.aload 6, 2) := by decide +kernel
theorem dX7_inRowAt_46 : decode cX7_inRowAt 46 = .ok (.areturn, 1) := by decide +kernel
theorem dX7_inRowAt_47 : decode cX7_inRowAt 47 = .ok (.iinc 5 1, 3) := by decide +kernel
theorem dX7_inRowAt_50 : decode cX7_inRowAt 50 = .ok (.goto (-38), 3) := by decide +kernel
end
section
theorem dX7_inRowAt_53 : decode cX7_inRowAt 53 = .ok (.aconst_null, 1) := by decide +kernel
theorem dX7_inRowAt_54 : decode cX7_inRowAt 54 = .ok (.areturn, 1) := by decide +kernel
theorem dX7_countBefore_0 : decode cX7_countBefore 0 = .ok (.iconst 0, 1) := by decide +kernel
theorem dX7_countBefore_1 : decode cX7_countBefore 1 = .ok (.istore_n 2, 1) := by decide +kernel
theorem dX7_countBefore_2 : decode cX7_countBefore 2 = .ok (.aload_n 0, 1) := by decide +kernel
theorem dX7_countBefore_3 : decode cX7_countBefore 3 = .ok (.getfield 23, 3) := by decide +kernel
theorem dX7_countBefore_6 : decode cX7_countBefore 6 = .ok (.astore_n 3, 1) := by decide +kernel
theorem dX7_countBefore_7 : decode cX7_countBefore 7 = .ok (.aload_n 3, 1) := by decide +kernel
theorem dX7_countBefore_8 : decode cX7_countBefore 8 = .ok (.arraylength, 1) := by decide +kernel
theorem dX7_countBefore_9 : decode cX7_countBefore 9 = .ok (.istore 4, 2) := by decide +kernel
theorem dX7_countBefore_11 : decode cX7_countBefore 11 = .ok (.iconst 0, 1) := by decide +kernel
theorem dX7_countBefore_12 : decode cX7_countBefore 12 = .ok (.istore 5, 2) := by decide +kernel
theorem dX7_countBefore_14 : decode cX7_countBefore 14 = .ok (.iload 5, 2) := by decide +kernel
theorem dX7_countBefore_16 : decode cX7_countBefore 16 = .ok (.iload 4, 2) := by decide +kernel
theorem dX7_countBefore_18 : decode cX7_countBefore 18 = .ok (.if_icmp .ge 39, 3) := by decide +kernel
theorem dX7_countBefore_21 : decode cX7_countBefore 21 = .ok (.aload_n 3, 1) := by decide +kernel
theorem dX7_countBefore_22 : decode cX7_countBefore 22 = .ok (.iload 5, 2) := by decide +kernel
theorem dX7_countBefore_24 : decode cX7_countBefore 24 = .ok (.aaload, 1) := by decide +kernel
theorem dX7_countBefore_25 : decode cX7_countBefore 25 = .ok (.astore 6, 2) := by decide +kernel
theorem dX7_countBefore_27 : decode cX7_countBefore 27 = .ok (.aload 6, 2) := by decide +kernel
theorem dX7_countBefore_29 : decode cX7_countBefore 29 = .ok (.getfield 240, 3) := by decide +kernel
theorem dX7_countBefore_32 : decode cX7_countBefore 32 = .ok (.aload_n 1, 1) := by decide +kernel
theorem dX7_countBefore_33 : decode cX7_countBefore 33 = .ok (.getfield 240, 3) := by decide +kernel
theorem dX7_countBefore_36 : decode cX7_countBefore 36 = .ok (.if_icmp .ne 15, 3) := by decide +kernel
theorem dX7_countBefore_39 : decode cX7_countBefore 39 = .ok (.aload 6, 2) := by decide +kernel
theorem dX7_countBefore_41 : decode cX7_countBefore 41 = .ok (.aload_n 1, 1) := by decide +kernel
theorem dX7_countBefore_42 : decode cX7_countBefore 42 = .ok (.invokevirtual 271, 3) := by decide +kernel
theorem dX7_countBefore_45 : decode cX7_countBefore 45 = .ok (.ifCond .eq 6, 3) := by decide +kernel
theorem dX7_countBefore_48 : decode cX7_countBefore 48 = .ok (.iinc 2 1, 3) := by decide +kernel
theorem dX7_countBefore_51 : decode cX7_countBefore 51 = .ok (.iinc 5 1, 3) := by decide +kernel
theorem dX7_countBefore_54 : decode cX7_countBefore 54 = .ok (.goto (-40), 3) := by decide +kernel
theorem dX7_countBefore_57 : decode cX7_countBefore 57 = .ok (.iload_n 2, 1) := by decide +kernel
theorem dX7_countBefore_58 : decode cX7_countBefore 58 = .ok (.ireturn, 1) := by decide +kernel
theorem dX7_seize_0 : decode cX7_seize 0 = .ok (.aload_n 2, 1) := by decide +kernel
theorem dX7_seize_1 : decode cX7_seize 1 = .ok (.ifnonnull 4, 3) := by decide +kernel
theorem dX7_seize_4 : decode cX7_seize 4 = .ok (.return_, 1) := by decide +kernel
theorem dX7_seize_5 : decode cX7_seize 5 = .ok (.iload_n 3, 1) := by decide +kernel
theorem dX7_seize_6 : decode cX7_seize 6 = .ok (.aload_n 2, 1) := by decide +kernel
theorem dX7_seize_7 : decode cX7_seize 7 = .ok (.getfield 128, 3) := by decide +kernel
theorem dX7_seize_10 : decode cX7_seize 10 = .ok (.if_icmp .le 10, 3) := by decide +kernel
theorem dX7_seize_13 : decode cX7_seize 13 = .ok (.aload_n 1, 1) := by decide +kernel
theorem dX7_seize_14 : decode cX7_seize 14 = .ok (.bipush 6, 2) := by decide +kernel
theorem dX7_seize_16 : decode cX7_seize 16 = .ok (.putfield 92, 3) := by decide +kernel
theorem dX7_seize_19 : decode cX7_seize 19 = .ok (.return_, 1) := by decide +kernel
theorem dX7_seize_20 : decode cX7_seize 20 = .ok (.aload_n 0, 1) := by decide +kernel
theorem dX7_seize_21 : decode cX7_seize 21 = .ok (.aload_n 1, 1) := by decide +kernel
theorem dX7_seize_22 : decode cX7_seize 22 = .ok (.aload_n 2, 1) := by decide +kernel
theorem dX7_seize_23 : decode cX7_seize 23 = .ok (.iload_n 3, 1) := by decide +kernel
theorem dX7_seize_24 : decode cX7_seize 24 = .ok (.iconst 0, 1) := by decide +kernel
theorem dX7_seize_25 : decode cX7_seize 25 = .ok (.invokevirtual 278, 3) := by decide +kernel
theorem dX7_seize_28 : decode cX7_seize 28 = .ok (.aload_n 0, 1) := by decide +kernel
theorem dX7_seize_29 : decode cX7_seize 29 = .ok (.aload_n 2, 1) := by decide +kernel
theorem dX7_seize_30 : decode cX7_seize 30 = .ok (.getfield 137, 3) := by decide +kernel
theorem dX7_seize_33 : decode cX7_seize 33 = .ok (.invokevirtual 237, 3) := by decide +kernel
theorem dX7_seize_36 : decode cX7_seize 36 = .ok (.aload_n 1, 1) := by decide +kernel
theorem dX7_seize_37 : decode cX7_seize 37 = .ok (.if_acmp .ne 7, 3) := by decide +kernel
theorem dX7_seize_40 : decode cX7_seize 40 = .ok (.iconst 1, 1) := by decide +kernel
theorem dX7_seize_41 : decode cX7_seize 41 = .ok (.goto 4, 3) := by decide +kernel
theorem dX7_seize_44 : decode cX7_seize 44 = .ok (.iconst 0, 1) := by decide +kernel
theorem dX7_seize_45 : decode cX7_seize 45 = .ok (.istore 4, 2) := by decide +kernel
theorem dX7_seize_47 : decode cX7_seize 47 = .ok (.iload 4, 2) := by decide +kernel
theorem dX7_seize_49 : decode cX7_seize 49 = .ok (.ifCond .eq 38, 3) := by decide +kernel
theorem dX7_seize_52 : decode cX7_seize 52 = .ok (.aload_n 2, 1) := by decide +kernel
theorem dX7_seize_53 : decode cX7_seize 53 = .ok (.getfield 282, 3) := by decide +kernel
theorem dX7_seize_56 : decode cX7_seize 56 = .ok (.iconst 2, 1) := by decide +kernel
theorem dX7_seize_57 : decode cX7_seize 57 = .ok (.if_icmp .ne 30, 3) := by decide +kernel
theorem dX7_seize_60 : decode cX7_seize 60 = .ok (.aload_n 2, 1) := by decide +kernel
theorem dX7_seize_61 : decode cX7_seize 61 = .ok (.getfield 131, 3) := by decide +kernel
theorem dX7_seize_64 : decode cX7_seize 64 = .ok (.iload_n 3, 1) := by decide +kernel
theorem dX7_seize_65 : decode cX7_seize 65 = .ok (.if_icmp .ge 22, 3) := by decide +kernel
theorem dX7_seize_68 : decode cX7_seize 68 = .ok (.aload_n 2, 1) := by decide +kernel
theorem dX7_seize_69 : decode cX7_seize 69 = .ok (.getfield 131, 3) := by decide +kernel
theorem dX7_seize_72 : decode cX7_seize 72 = .ok (.aload_n 0, 1) := by decide +kernel
theorem dX7_seize_73 : decode cX7_seize 73 = .ok (.aload_n 1, 1) := by decide +kernel
theorem dX7_seize_74 : decode cX7_seize 74 = .ok (.aload_n 2, 1) := by decide +kernel
theorem dX7_seize_75 : decode cX7_seize 75 = .ok (.invokevirtual 285, 3) := by decide +kernel
theorem dX7_seize_78 : decode cX7_seize 78 = .ok (.iadd, 1) := by decide +kernel
theorem dX7_seize_79 : decode cX7_seize 79 = .ok (.iload_n 3, 1) := by decide +kernel
theorem dX7_seize_80 : decode cX7_seize 80 = .ok (.if_icmp .lt 7, 3) := by decide +kernel
theorem dX7_seize_83 : decode cX7_seize 83 = .ok (.iconst 1, 1) := by decide +kernel
theorem dX7_seize_84 : decode cX7_seize 84 = .ok (.goto 4, 3) := by decide +kernel
theorem dX7_seize_87 : decode cX7_seize 87 = .ok (.iconst 0, 1) := by decide +kernel
theorem dX7_seize_88 : decode cX7_seize 88 = .ok (.istore 5, 2) := by decide +kernel
theorem dX7_seize_90 : decode cX7_seize 90 = .ok (.iconst 0, 1) := by decide +kernel
theorem dX7_seize_91 : decode cX7_seize 91 = .ok (.istore 6, 2) := by decide +kernel
theorem dX7_seize_93 : decode cX7_seize 93 = .ok (.iload 5, 2) := by decide +kernel
theorem dX7_seize_95 : decode cX7_seize 95 = .ok (.ifCond .eq 35, 3) := by decide +kernel
theorem dX7_seize_98 : decode cX7_seize 98 = .ok (.aload_n 2, 1) := by decide +kernel
theorem dX7_seize_99 : decode cX7_seize 99 = .ok (.getfield 131, 3) := by decide +kernel
theorem dX7_seize_102 : decode cX7_seize 102 = .ok (.iload_n 3, 1) := by decide +kernel
theorem dX7_seize_103 : decode cX7_seize 103 = .ok (.if_icmp .ge 27, 3) := by decide +kernel
theorem dX7_seize_106 : decode cX7_seize 106 = .ok (.iload 6, 2) := by decide +kernel
theorem dX7_seize_108 : decode cX7_seize 108 = .ok (.bipush 24, 2) := by decide +kernel
theorem dX7_seize_110 : decode cX7_seize 110 = .ok (.if_icmp .ge 20, 3) := by decide +kernel
theorem dX7_seize_113 : decode cX7_seize 113 = .ok (.aload_n 0, 1) := by decide +kernel
theorem dX7_seize_114 : decode cX7_seize 114 = .ok (.aload_n 0, 1) := by decide +kernel
theorem dX7_seize_115 : decode cX7_seize 115 = .ok (.aload_n 1, 1) := by decide +kernel
theorem dX7_seize_116 : decode cX7_seize 116 = .ok (.aload_n 2, 1) := by decide +kernel
theorem dX7_seize_117 : decode cX7_seize 117 = .ok (.invokevirtual 289, 3) := by decide +kernel
theorem dX7_seize_120 : decode cX7_seize 120 = .ok (.aload_n 2, 1) := by decide +kernel
theorem dX7_seize_121 : decode cX7_seize 121 = .ok (.invokevirtual 293, 3) := by decide +kernel
theorem dX7_seize_124 : decode cX7_seize 124 = .ok (.iinc 6 1, 3) := by decide +kernel
theorem dX7_seize_127 : decode cX7_seize 127 = .ok (.goto (-34), 3) := by decide +kernel
theorem dX7_seize_130 : decode cX7_seize 130 = .ok (.aload_n 2, 1) := by decide +kernel
theorem dX7_seize_131 : decode cX7_seize 131 = .ok (.aload_n 2, 1) := by decide +kernel
theorem dX7_seize_132 : decode cX7_seize 132 = .ok (.getfield 297, 3) := by decide +kernel
theorem dX7_seize_135 : decode cX7_seize 135 = .ok (.aload_n 0, 1) := by decide +kernel
theorem dX7_seize_136 : decode cX7_seize 136 = .ok (.aload_n 2, 1) := by decide +kernel
theorem dX7_seize_137 : decode cX7_seize 137 = .ok (.getfield 137, 3) := by decide +kernel
theorem dX7_seize_140 : decode cX7_seize 140 = .ok (.invokevirtual 140, 3) := by decide +kernel
theorem dX7_seize_143 : decode cX7_seize 143 = .ok (.invokestatic 300, 3) := by decide +kernel
theorem dX7_seize_146 : decode cX7_seize 146 = .ok (.putfield 297, 3) := by decide +kernel
theorem dX7_seize_149 : decode cX7_seize 149 = .ok (.iload 4, 2) := by decide +kernel
theorem dX7_seize_151 : decode cX7_seize 151 = .ok (.ifCond .eq 11, 3) := by decide +kernel
theorem dX7_seize_154 : decode cX7_seize 154 = .ok (.aload_n 2, 1) := by decide +kernel
theorem dX7_seize_155 : decode cX7_seize 155 = .ok (.getfield 131, 3) := by decide +kernel
theorem dX7_seize_158 : decode cX7_seize 158 = .ok (.iload_n 3, 1) := by decide +kernel
theorem dX7_seize_159 : decode cX7_seize 159 = .ok (.if_icmp .ge 4, 3) := by decide +kernel
theorem dX7_seize_162 : decode cX7_seize 162 = .ok (.return_, 1) := by decide +kernel
theorem dX7_seize_163 : decode cX7_seize 163 = .ok (.aload_n 0, 1) := by decide +kernel
theorem dX7_seize_164 : decode cX7_seize 164 = .ok (.aload_n 1, 1) := by decide +kernel
theorem dX7_seize_165 : decode cX7_seize 165 = .ok (.aload_n 2, 1) := by decide +kernel
theorem dX7_seize_166 : decode cX7_seize 166 = .ok (.invokevirtual 306, 3) := by decide +kernel
theorem dX7_seize_169 : decode cX7_seize 169 = .ok (.aload_n 1, 1) := by decide +kernel
theorem dX7_seize_170 : decode cX7_seize 170 = .ok (.bipush 8, 2) := by decide +kernel
theorem dX7_seize_172 : decode cX7_seize 172 = .ok (.putfield 92, 3) := by decide +kernel
theorem dX7_seize_175 : decode cX7_seize 175 = .ok (.iload 5, 2) := by decide +kernel
theorem dX7_seize_177 : decode cX7_seize 177 = .ok (.ifCond .eq 8, 3) := by decide +kernel
theorem dX7_seize_180 : decode cX7_seize 180 = .ok (.aload_n 0, 1) := by decide +kernel
theorem dX7_seize_181 : decode cX7_seize 181 = .ok (.aload_n 2, 1) := by decide +kernel
theorem dX7_seize_182 : decode cX7_seize 182 = .ok (.invokevirtual 265, 3) := by decide +kernel
theorem dX7_seize_185 : decode cX7_seize 185 = .ok (.return_, 1) := by decide +kernel
theorem dX7_queueUp_0 : decode cX7_queueUp 0 = .ok (.aload_n 0, 1) := by decide +kernel
theorem dX7_queueUp_1 : decode cX7_queueUp 1 = .ok (.aload_n 1, 1) := by decide +kernel
theorem dX7_queueUp_2 : decode cX7_queueUp 2 = .ok (.aload_n 2, 1) := by decide +kernel
theorem dX7_queueUp_3 : decode cX7_queueUp 3 = .ok (.getfield 137, 3) := by decide +kernel
theorem dX7_queueUp_6 : decode cX7_queueUp 6 = .ok (.iconst 2, 1) := by decide +kernel
theorem dX7_queueUp_7 : decode cX7_queueUp 7 = .ok (.invokevirtual 212, 3) := by decide +kernel
theorem dX7_queueUp_10 : decode cX7_queueUp 10 = .ok (.aload_n 1, 1) := by decide +kernel
theorem dX7_queueUp_11 : decode cX7_queueUp 11 = .ok (.aload_n 2, 1) := by decide +kernel
theorem dX7_queueUp_12 : decode cX7_queueUp 12 = .ok (.getfield 282, 3) := by decide +kernel
theorem dX7_queueUp_15 : decode cX7_queueUp 15 = .ok (.ifCond .ne 7, 3) := by decide +kernel
theorem dX7_queueUp_18 : decode cX7_queueUp 18 = .ok (.iconst 0, 1) := by decide +kernel
theorem dX7_queueUp_19 : decode cX7_queueUp 19 = .ok (.goto 7, 3) := by decide +kernel
theorem dX7_queueUp_22 : decode cX7_queueUp 22 = .ok (.aload_n 1, 1) := by decide +kernel
theorem dX7_queueUp_23 : decode cX7_queueUp 23 = .ok (.getfield 82, 3) := by decide +kernel
theorem dX7_queueUp_26 : decode cX7_queueUp 26 = .ok (.putfield 259, 3) := by decide +kernel
theorem dX7_queueUp_29 : decode cX7_queueUp 29 = .ok (.aload_n 1, 1) := by decide +kernel
theorem dX7_queueUp_30 : decode cX7_queueUp 30 = .ok (.iload_n 3, 1) := by decide +kernel
theorem dX7_queueUp_31 : decode cX7_queueUp 31 = .ok (.putfield 309, 3) := by decide +kernel
theorem dX7_queueUp_34 : decode cX7_queueUp 34 = .ok (.aload_n 1, 1) := by decide +kernel
theorem dX7_queueUp_35 : decode cX7_queueUp 35 = .ok (.iload 4, 2) := by decide +kernel
theorem dX7_queueUp_37 : decode cX7_queueUp 37 = .ok (.putfield 312, 3) := by decide +kernel
theorem dX7_queueUp_40 : decode cX7_queueUp 40 = .ok (.return_, 1) := by decide +kernel
theorem dX7_giveUnits_0 : decode cX7_giveUnits 0 = .ok (.aload_n 0, 1) := by decide +kernel
theorem dX7_giveUnits_1 : decode cX7_giveUnits 1 = .ok (.dup, 1) := by decide +kernel
theorem dX7_giveUnits_2 : decode cX7_giveUnits 2 = .ok (.getfield 49, 3) := by decide +kernel
theorem dX7_giveUnits_5 : decode cX7_giveUnits 5 = .ok (.iconst 1, 1) := by decide +kernel
theorem dX7_giveUnits_6 : decode cX7_giveUnits 6 = .ok (.iadd, 1) := by decide +kernel
theorem dX7_giveUnits_7 : decode cX7_giveUnits 7 = .ok (.putfield 49, 3) := by decide +kernel
theorem dX7_giveUnits_10 : decode cX7_giveUnits 10 = .ok (.aload_n 1, 1) := by decide +kernel
theorem dX7_giveUnits_11 : decode cX7_giveUnits 11 = .ok (.iconst (-1), 1) := by decide +kernel
theorem dX7_giveUnits_12 : decode cX7_giveUnits 12 = .ok (.putfield 240, 3) := by decide +kernel
theorem dX7_giveUnits_15 : decode cX7_giveUnits 15 = .ok (.aload_n 2, 1) := by decide +kernel
theorem dX7_giveUnits_16 : decode cX7_giveUnits 16 = .ok (.dup, 1) := by decide +kernel
theorem dX7_giveUnits_17 : decode cX7_giveUnits 17 = .ok (.getfield 131, 3) := by decide +kernel
theorem dX7_giveUnits_20 : decode cX7_giveUnits 20 = .ok (.aload_n 1, 1) := by decide +kernel
theorem dX7_giveUnits_21 : decode cX7_giveUnits 21 = .ok (.getfield 309, 3) := by decide +kernel
theorem dX7_giveUnits_24 : decode cX7_giveUnits 24 = .ok (.isub, 1) := by decide +kernel
theorem dX7_giveUnits_25 : decode cX7_giveUnits 25 = .ok (.putfield 131, 3) := by decide +kernel
theorem dX7_giveUnits_28 : decode cX7_giveUnits 28 = .ok (.aload_n 1, 1) := by decide +kernel
theorem dX7_giveUnits_29 : decode cX7_giveUnits 29 = .ok (.getfield 316, 3) := by decide +kernel
theorem dX7_giveUnits_32 : decode cX7_giveUnits 32 = .ok (.aload_n 2, 1) := by decide +kernel
theorem dX7_giveUnits_33 : decode cX7_giveUnits 33 = .ok (.getfield 137, 3) := by decide +kernel
theorem dX7_giveUnits_36 : decode cX7_giveUnits 36 = .ok (.aload_n 1, 1) := by decide +kernel
theorem dX7_giveUnits_37 : decode cX7_giveUnits 37 = .ok (.getfield 316, 3) := by decide +kernel
theorem dX7_giveUnits_40 : decode cX7_giveUnits 40 = .ok (.aload_n 2, 1) := by decide +kernel
theorem dX7_giveUnits_41 : decode cX7_giveUnits 41 = .ok (.getfield 137, 3) := by decide +kernel
theorem dX7_giveUnits_44 : decode cX7_giveUnits 44 = .ok (.invokestatic 251, 3) := by decide +kernel
theorem dX7_giveUnits_47 : decode cX7_giveUnits 47 = .ok (.aload_n 1, 1) := by decide +kernel
theorem dX7_giveUnits_48 : decode cX7_giveUnits 48 = .ok (.getfield 309, 3) := by decide +kernel
theorem dX7_giveUnits_51 : decode cX7_giveUnits 51 = .ok (.iadd, 1) := by decide +kernel
theorem dX7_giveUnits_52 : decode cX7_giveUnits 52 = .ok (.invokestatic 255, 3) := by decide +kernel
theorem dX7_giveUnits_55 : decode cX7_giveUnits 55 = .ok (.aload_n 1, 1) := by decide +kernel
theorem dX7_giveUnits_56 : decode cX7_giveUnits 56 = .ok (.getfield 319, 3) := by decide +kernel
theorem dX7_giveUnits_59 : decode cX7_giveUnits 59 = .ok (.aload_n 2, 1) := by decide +kernel
theorem dX7_giveUnits_60 : decode cX7_giveUnits 60 = .ok (.getfield 137, 3) := by decide +kernel
theorem dX7_giveUnits_63 : decode cX7_giveUnits 63 = .ok (.aload_n 0, 1) := by decide +kernel
theorem dX7_giveUnits_64 : decode cX7_giveUnits 64 = .ok (.getfield 49, 3) := by decide +kernel
theorem dX7_giveUnits_67 : decode cX7_giveUnits 67 = .ok (.invokestatic 255, 3) := by decide +kernel
theorem dX7_giveUnits_70 : decode cX7_giveUnits 70 = .ok (.return_, 1) := by decide +kernel
theorem dX7_unitsToTake_0 : decode cX7_unitsToTake 0 = .ok (.aload_n 2, 1) := by decide +kernel
theorem dX7_unitsToTake_1 : decode cX7_unitsToTake 1 = .ok (.getfield 92, 3) := by decide +kernel
theorem dX7_unitsToTake_4 : decode cX7_unitsToTake 4 = .ok (.iconst 1, 1) := by decide +kernel
theorem dX7_unitsToTake_5 : decode cX7_unitsToTake 5 = .ok (.if_icmp .ne 18, 3) := by decide +kernel
theorem dX7_unitsToTake_8 : decode cX7_unitsToTake 8 = .ok (.aload_n 2, 1) := by decide +kernel
theorem dX7_unitsToTake_9 : decode cX7_unitsToTake 9 = .ok (.getfield 82, 3) := by decide +kernel
theorem dX7_unitsToTake_12 : decode cX7_unitsToTake 12 = .ok (.aload_n 1, 1) := by decide +kernel
theorem dX7_unitsToTake_13 : decode cX7_unitsToTake 13 = .ok (.getfield 82, 3) := by decide +kernel
theorem dX7_unitsToTake_16 : decode cX7_unitsToTake 16 = .ok (.if_icmp .le 7, 3) := by decide +kernel
theorem dX7_unitsToTake_19 : decode cX7_unitsToTake 19 = .ok (.iconst 1, 1) := by decide +kernel
theorem dX7_unitsToTake_20 : decode cX7_unitsToTake 20 = .ok (.goto 4, 3) := by decide +kernel
theorem dX7_unitsToTake_23 : decode cX7_unitsToTake 23 = .ok (.iconst 0, 1) := by decide +kernel
theorem dX7_unitsToTake_24 : decode cX7_unitsToTake 24 = .ok (.istore 4, 2) := by decide +kernel
theorem dX7_unitsToTake_26 : decode cX7_unitsToTake 26 = .ok (.iload 4, 2) := by decide +kernel
theorem dX7_unitsToTake_28 : decode cX7_unitsToTake 28 = .ok (.ifCond .eq 17, 3) := by decide +kernel
theorem dX7_unitsToTake_31 : decode cX7_unitsToTake 31 = .ok (.aload_n 2, 1) := by decide +kernel
theorem dX7_unitsToTake_32 : decode cX7_unitsToTake 32 = .ok (.getfield 316, 3) := by decide +kernel
theorem dX7_unitsToTake_35 : decode cX7_unitsToTake 35 = .ok (.aload_n 3, 1) := by decide +kernel
theorem dX7_unitsToTake_36 : decode cX7_unitsToTake 36 = .ok (.getfield 137, 3) := by decide +kernel
theorem dX7_unitsToTake_39 : decode cX7_unitsToTake 39 = .ok (.invokestatic 251, 3) := by decide +kernel
theorem dX7_unitsToTake_42 : decode cX7_unitsToTake 42 = .ok (.goto 4, 3) := by decide +kernel
theorem dX7_unitsToTake_45 : decode cX7_unitsToTake 45 = .ok (.iconst 0, 1) := by decide +kernel
theorem dX7_unitsToTake_46 : decode cX7_unitsToTake 46 = .ok (.ireturn, 1) := by decide +kernel
theorem dX7_unitsOfVictims_0 : decode cX7_unitsOfVictims 0 = .ok (.iconst 0, 1) := by decide +kernel
theorem dX7_unitsOfVictims_1 : decode cX7_unitsOfVictims 1 = .ok (.istore_n 3, 1) := by decide +kernel
theorem dX7_unitsOfVictims_2 : decode cX7_unitsOfVictims 2 = .ok (.aload_n 0, 1) := by decide +kernel
theorem dX7_unitsOfVictims_3 : decode cX7_unitsOfVictims 3 = .ok (.getfield 23, 3) := by decide +kernel
theorem dX7_unitsOfVictims_6 : decode cX7_unitsOfVictims 6 = .ok (.astore 4, 2) := by decide +kernel
theorem dX7_unitsOfVictims_8 : decode cX7_unitsOfVictims 8 = .ok (.aload 4, 2) := by decide +kernel
theorem dX7_unitsOfVictims_10 : decode cX7_unitsOfVictims 10 = .ok (.arraylength, 1) := by decide +kernel
theorem dX7_unitsOfVictims_11 : decode cX7_unitsOfVictims 11 = .ok (.istore 5, 2) := by decide +kernel
theorem dX7_unitsOfVictims_13 : decode cX7_unitsOfVictims 13 = .ok (.iconst 0, 1) := by decide +kernel
theorem dX7_unitsOfVictims_14 : decode cX7_unitsOfVictims 14 = .ok (.istore 6, 2) := by decide +kernel
theorem dX7_unitsOfVictims_16 : decode cX7_unitsOfVictims 16 = .ok (.iload 6, 2) := by decide +kernel
theorem dX7_unitsOfVictims_18 : decode cX7_unitsOfVictims 18 = .ok (.iload 5, 2) := by decide +kernel
theorem dX7_unitsOfVictims_20 : decode cX7_unitsOfVictims 20 = .ok (.if_icmp .ge 27, 3) := by decide +kernel
theorem dX7_unitsOfVictims_23 : decode cX7_unitsOfVictims 23 = .ok (.aload 4, 2) := by decide +kernel
theorem dX7_unitsOfVictims_25 : decode cX7_unitsOfVictims 25 = .ok (.iload 6, 2) := by decide +kernel
theorem dX7_unitsOfVictims_27 : decode cX7_unitsOfVictims 27 = .ok (.aaload, 1) := by decide +kernel
theorem dX7_unitsOfVictims_28 : decode cX7_unitsOfVictims 28 = .ok (.astore 7, 2) := by decide +kernel
theorem dX7_unitsOfVictims_30 : decode cX7_unitsOfVictims 30 = .ok (.iload_n 3, 1) := by decide +kernel
theorem dX7_unitsOfVictims_31 : decode cX7_unitsOfVictims 31 = .ok (.aload_n 0, 1) := by decide +kernel
theorem dX7_unitsOfVictims_32 : decode cX7_unitsOfVictims 32 = .ok (.aload_n 1, 1) := by decide +kernel
theorem dX7_unitsOfVictims_33 : decode cX7_unitsOfVictims 33 = .ok (.aload 7, 2) := by decide +kernel
theorem dX7_unitsOfVictims_35 : decode cX7_unitsOfVictims 35 = .ok (.aload_n 2, 1) := by decide +kernel
theorem dX7_unitsOfVictims_36 : decode cX7_unitsOfVictims 36 = .ok (.invokevirtual 322, 3) := by decide +kernel
theorem dX7_unitsOfVictims_39 : decode cX7_unitsOfVictims 39 = .ok (.iadd, 1) := by decide +kernel
theorem dX7_unitsOfVictims_40 : decode cX7_unitsOfVictims 40 = .ok (.istore_n 3, 1) := by decide +kernel
theorem dX7_unitsOfVictims_41 : decode cX7_unitsOfVictims 41 = .ok (.iinc 6 1, 3) := by decide +kernel
theorem dX7_unitsOfVictims_44 : decode cX7_unitsOfVictims 44 = .ok (.goto (-28), 3) := by decide +kernel
theorem dX7_unitsOfVictims_47 : decode cX7_unitsOfVictims 47 = .ok (.iload_n 3, 1) := by decide +kernel
theorem dX7_unitsOfVictims_48 : decode cX7_unitsOfVictims 48 = .ok (.ireturn, 1) := by decide +kernel
theorem dX7_nextVictim_0 : decode cX7_nextVictim 0 = .ok (.aconst_null, 1) := by decide +kernel
theorem dX7_nextVictim_1 : decode cX7_nextVictim 1 = .ok (.astore_n 3, 1) := by decide +kernel
theorem dX7_nextVictim_2 : decode cX7_nextVictim 2 = .ok (.aload_n 0, 1) := by decide +kernel
theorem dX7_nextVictim_3 : decode cX7_nextVictim 3 = .ok (.getfield 23, 3) := by decide +kernel
theorem dX7_nextVictim_6 : decode cX7_nextVictim 6 = .ok (.astore 4, 2) := by decide +kernel
theorem dX7_nextVictim_8 : decode cX7_nextVictim 8 = .ok (.aload 4, 2) := by decide +kernel
theorem dX7_nextVictim_10 : decode cX7_nextVictim 10 = .ok (.arraylength, 1) := by decide +kernel
theorem dX7_nextVictim_11 : decode cX7_nextVictim 11 = .ok (.istore 5, 2) := by decide +kernel
theorem dX7_nextVictim_13 : decode cX7_nextVictim 13 = .ok (.iconst 0, 1) := by decide +kernel
theorem dX7_nextVictim_14 : decode cX7_nextVictim 14 = .ok (.istore 6, 2) := by decide +kernel
theorem dX7_nextVictim_16 : decode cX7_nextVictim 16 = .ok (.iload 6, 2) := by decide +kernel
theorem dX7_nextVictim_18 : decode cX7_nextVictim 18 = .ok (.iload 5, 2) := by decide +kernel
theorem dX7_nextVictim_20 : decode cX7_nextVictim 20 = .ok (.if_icmp .ge 47, 3) := by decide +kernel
theorem dX7_nextVictim_23 : decode cX7_nextVictim 23 = .ok (.aload 4, 2) := by decide +kernel
theorem dX7_nextVictim_25 : decode cX7_nextVictim 25 = .ok (.iload 6, 2) := by decide +kernel
theorem dX7_nextVictim_27 : decode cX7_nextVictim 27 = .ok (.aaload, 1) := by decide +kernel
theorem dX7_nextVictim_28 : decode cX7_nextVictim 28 = .ok (.astore 7, 2) := by decide +kernel
theorem dX7_nextVictim_30 : decode cX7_nextVictim 30 = .ok (.aload_n 0, 1) := by decide +kernel
theorem dX7_nextVictim_31 : decode cX7_nextVictim 31 = .ok (.aload_n 1, 1) := by decide +kernel
theorem dX7_nextVictim_32 : decode cX7_nextVictim 32 = .ok (.aload 7, 2) := by decide +kernel
theorem dX7_nextVictim_34 : decode cX7_nextVictim 34 = .ok (.aload_n 2, 1) := by decide +kernel
theorem dX7_nextVictim_35 : decode cX7_nextVictim 35 = .ok (.invokevirtual 322, 3) := by decide +kernel
theorem dX7_nextVictim_38 : decode cX7_nextVictim 38 = .ok (.ifCond .le 23, 3) := by decide +kernel
theorem dX7_nextVictim_41 : decode cX7_nextVictim 41 = .ok (.aload_n 3, 1) := by decide +kernel
theorem dX7_nextVictim_42 : decode cX7_nextVictim 42 = .ok (.ifnull 16, 3) := by decide +kernel
theorem dX7_nextVictim_45 : decode cX7_nextVictim 45 = .ok (.aload 7, 2) := by decide +kernel
theorem dX7_nextVictim_47 : decode cX7_nextVictim 47 = .ok (.aload_n 3, 1) := by decide +kernel
theorem dX7_nextVictim_48 : decode cX7_nextVictim 48 = .ok (.aload_n 2, 1) := by decide +kernel
theorem dX7_nextVictim_49 : decode cX7_nextVictim 49 = .ok (.getfield 137, 3) := by decide +kernel
theorem dX7_nextVictim_52 : decode cX7_nextVictim 52 = .ok (.invokevirtual 326, 3) := by decide +kernel
theorem dX7_nextVictim_55 : decode cX7_nextVictim 55 = .ok (.ifCond .eq 6, 3) := by decide +kernel
theorem dX7_nextVictim_58 : decode cX7_nextVictim 58 = .ok (.aload 7, 2) := by decide +kernel
theorem dX7_nextVictim_60 : decode cX7_nextVictim 60 = .ok (.astore_n 3, 1) := by decide +kernel
theorem dX7_nextVictim_61 : decode cX7_nextVictim 61 = .ok (.iinc 6 1, 3) := by decide +kernel
theorem dX7_nextVictim_64 : decode cX7_nextVictim 64 = .ok (.goto (-48), 3) := by decide +kernel
theorem dX7_nextVictim_67 : decode cX7_nextVictim 67 = .ok (.aload_n 3, 1) := by decide +kernel
theorem dX7_nextVictim_68 : decode cX7_nextVictim 68 = .ok (.areturn, 1) := by decide +kernel
theorem dX7_throwOut_0 : decode cX7_throwOut 0 = .ok (.aload_n 1, 1) := by decide +kernel
theorem dX7_throwOut_1 : decode cX7_throwOut 1 = .ok (.ifnonnull 4, 3) := by decide +kernel
theorem dX7_throwOut_4 : decode cX7_throwOut 4 = .ok (.return_, 1) := by decide +kernel
theorem dX7_throwOut_5 : decode cX7_throwOut 5 = .ok (.aload_n 1, 1) := by decide +kernel
theorem dX7_throwOut_6 : decode cX7_throwOut 6 = .ok (.getfield 316, 3) := by decide +kernel
theorem dX7_throwOut_9 : decode cX7_throwOut 9 = .ok (.aload_n 2, 1) := by decide +kernel
theorem dX7_throwOut_10 : decode cX7_throwOut 10 = .ok (.getfield 137, 3) := by decide +kernel
theorem dX7_throwOut_13 : decode cX7_throwOut 13 = .ok (.invokestatic 251, 3) := by decide +kernel
theorem dX7_throwOut_16 : decode cX7_throwOut 16 = .ok (.istore_n 3, 1) := by decide +kernel
theorem dX7_throwOut_17 : decode cX7_throwOut 17 = .ok (.aload_n 1, 1) := by decide +kernel
theorem dX7_throwOut_18 : decode cX7_throwOut 18 = .ok (.getfield 316, 3) := by decide +kernel
theorem dX7_throwOut_21 : decode cX7_throwOut 21 = .ok (.aload_n 2, 1) := by decide +kernel
theorem dX7_throwOut_22 : decode cX7_throwOut 22 = .ok (.getfield 137, 3) := by decide +kernel
theorem dX7_throwOut_25 : decode cX7_throwOut 25 = .ok (.iconst 0, 1) := by decide +kernel
theorem dX7_throwOut_26 : decode cX7_throwOut 26 = .ok (.invokestatic 255, 3) := by decide +kernel
theorem dX7_throwOut_29 : decode cX7_throwOut 29 = .ok (.aload_n 2, 1) := by decide +kernel
theorem dX7_throwOut_30 : decode cX7_throwOut 30 = .ok (.dup, 1) := by decide +kernel
theorem dX7_throwOut_31 : decode cX7_throwOut 31 = .ok (.getfield 131, 3) := by decide +kernel
theorem dX7_throwOut_34 : decode cX7_throwOut 34 = .ok (.iload_n 3, 1) := by decide +kernel
theorem dX7_throwOut_35 : decode cX7_throwOut 35 = .ok (.iadd, 1) := by decide +kernel
theorem dX7_throwOut_36 : decode cX7_throwOut 36 = .ok (.putfield 131, 3) := by decide +kernel
theorem dX7_throwOut_39 : decode cX7_throwOut 39 = .ok (.aload_n 1, 1) := by decide +kernel
theorem dX7_throwOut_40 : decode cX7_throwOut 40 = .ok (.aload_n 1, 1) := by decide +kernel
theorem dX7_throwOut_41 : decode cX7_throwOut 41 = .ok (.getfield 95, 3) := by decide +kernel
theorem dX7_throwOut_44 : decode cX7_throwOut 44 = .ok (.aload_n 0, 1) := by decide +kernel
theorem dX7_throwOut_45 : decode cX7_throwOut 45 = .ok (.getfield 40, 3) := by decide +kernel
theorem dX7_throwOut_48 : decode cX7_throwOut 48 = .ok (.isub, 1) := by decide +kernel
theorem dX7_throwOut_49 : decode cX7_throwOut 49 = .ok (.putfield 101, 3) := by decide +kernel
theorem dX7_throwOut_52 : decode cX7_throwOut 52 = .ok (.aload_n 1, 1) := by decide +kernel
theorem dX7_throwOut_53 : decode cX7_throwOut 53 = .ok (.iconst (-1), 1) := by decide +kernel
theorem dX7_throwOut_54 : decode cX7_throwOut 54 = .ok (.putfield 95, 3) := by decide +kernel
theorem dX7_throwOut_57 : decode cX7_throwOut 57 = .ok (.aload_n 0, 1) := by decide +kernel
theorem dX7_throwOut_58 : decode cX7_throwOut 58 = .ok (.aload_n 1, 1) := by decide +kernel
theorem dX7_throwOut_59 : decode cX7_throwOut 59 = .ok (.aload_n 2, 1) := by decide +kernel
theorem dX7_throwOut_60 : decode cX7_throwOut 60 = .ok (.iload_n 3, 1) := by decide +kernel
theorem dX7_throwOut_61 : decode cX7_throwOut 61 = .ok (.iconst 1, 1) := by decide +kernel
theorem dX7_throwOut_62 : decode cX7_throwOut 62 = .ok (.invokevirtual 278, 3) := by decide +kernel
theorem dX7_throwOut_65 : decode cX7_throwOut 65 = .ok (.return_, 1) := by decide +kernel
theorem dX7_release_0 : decode cX7_release 0 = .ok (.aload_n 2, 1) := by decide +kernel
theorem dX7_release_1 : decode cX7_release 1 = .ok (.ifnonnull 4, 3) := by decide +kernel
theorem dX7_release_4 : decode cX7_release 4 = .ok (.return_, 1) := by decide +kernel
theorem dX7_release_5 : decode cX7_release 5 = .ok (.aload_n 1, 1) := by decide +kernel
theorem dX7_release_6 : decode cX7_release 6 = .ok (.getfield 316, 3) := by decide +kernel
theorem dX7_release_9 : decode cX7_release 9 = .ok (.aload_n 2, 1) := by decide +kernel
theorem dX7_release_10 : decode cX7_release 10 = .ok (.getfield 137, 3) := by decide +kernel
theorem dX7_release_13 : decode cX7_release 13 = .ok (.invokestatic 251, 3) := by decide +kernel
theorem dX7_release_16 : decode cX7_release 16 = .ok (.istore 4, 2) := by decide +kernel
theorem dX7_release_18 : decode cX7_release 18 = .ok (.iload_n 3, 1) := by decide +kernel
theorem dX7_release_19 : decode cX7_release 19 = .ok (.iload 4, 2) := by decide +kernel
theorem dX7_release_21 : decode cX7_release 21 = .ok (.invokestatic 330, 3) := by decide +kernel
theorem dX7_release_24 : decode cX7_release 24 = .ok (.istore 5, 2) := by decide +kernel
theorem dX7_release_26 : decode cX7_release 26 = .ok (.aload_n 1, 1) := by decide +kernel
theorem dX7_release_27 : decode cX7_release 27 = .ok (.getfield 316, 3) := by decide +kernel
theorem dX7_release_30 : decode cX7_release 30 = .ok (.aload_n 2, 1) := by decide +kernel
theorem dX7_release_31 : decode cX7_release 31 = .ok (.getfield 137, 3) := by decide +kernel
theorem dX7_release_34 : decode cX7_release 34 = .ok (.iload 4, 2) := by decide +kernel
theorem dX7_release_36 : decode cX7_release 36 = .ok (.iload 5, 2) := by decide +kernel
theorem dX7_release_38 : decode cX7_release 38 = .ok (.isub, 1) := by decide +kernel
theorem dX7_release_39 : decode cX7_release 39 = .ok (.invokestatic 255, 3) := by decide +kernel
theorem dX7_release_42 : decode cX7_release 42 = .ok (.aload_n 2, 1) := by decide +kernel
theorem dX7_release_43 : decode cX7_release 43 = .ok (.dup, 1) := by decide +kernel
theorem dX7_release_44 : decode cX7_release 44 = .ok (.getfield 131, 3) := by decide +kernel
theorem dX7_release_47 : decode cX7_release 47 = .ok (.iload 5, 2) := by decide +kernel
theorem dX7_release_49 : decode cX7_release 49 = .ok (.iadd, 1) := by decide +kernel
theorem dX7_release_50 : decode cX7_release 50 = .ok (.putfield 131, 3) := by decide +kernel
theorem dX7_release_53 : decode cX7_release 53 = .ok (.aload_n 0, 1) := by decide +kernel
theorem dX7_release_54 : decode cX7_release 54 = .ok (.aload_n 2, 1) := by decide +kernel
theorem dX7_release_55 : decode cX7_release 55 = .ok (.invokevirtual 265, 3) := by decide +kernel
theorem dX7_release_58 : decode cX7_release 58 = .ok (.return_, 1) := by decide +kernel
theorem dX7_serve_0 : decode cX7_serve 0 = .ok (.iconst 0, 1) := by decide +kernel
theorem dX7_serve_1 : decode cX7_serve 1 = .ok (.istore_n 2, 1) := by decide +kernel
theorem dX7_serve_2 : decode cX7_serve 2 = .ok (.aload_n 1, 1) := by decide +kernel
theorem dX7_serve_3 : decode cX7_serve 3 = .ok (.ifnull 78, 3) := by decide +kernel
theorem dX7_serve_6 : decode cX7_serve 6 = .ok (.iload_n 2, 1) := by decide +kernel
theorem dX7_serve_7 : decode cX7_serve 7 = .ok (.bipush 24, 2) := by decide +kernel
theorem dX7_serve_9 : decode cX7_serve 9 = .ok (.if_icmp .ge 72, 3) := by decide +kernel
theorem dX7_serve_12 : decode cX7_serve 12 = .ok (.aload_n 0, 1) := by decide +kernel
theorem dX7_serve_13 : decode cX7_serve 13 = .ok (.aload_n 1, 1) := by decide +kernel
theorem dX7_serve_14 : decode cX7_serve 14 = .ok (.getfield 137, 3) := by decide +kernel
theorem dX7_serve_17 : decode cX7_serve 17 = .ok (.invokevirtual 237, 3) := by decide +kernel
theorem dX7_serve_20 : decode cX7_serve 20 = .ok (.astore_n 3, 1) := by decide +kernel
theorem dX7_serve_21 : decode cX7_serve 21 = .ok (.aload_n 3, 1) := by decide +kernel
theorem dX7_serve_22 : decode cX7_serve 22 = .ok (.ifnull 14, 3) := by decide +kernel
theorem dX7_serve_25 : decode cX7_serve 25 = .ok (.aload_n 3, 1) := by decide +kernel
theorem dX7_serve_26 : decode cX7_serve 26 = .ok (.getfield 309, 3) := by decide +kernel
theorem dX7_serve_29 : decode cX7_serve 29 = .ok (.aload_n 1, 1) := by decide +kernel
theorem dX7_serve_30 : decode cX7_serve 30 = .ok (.getfield 131, 3) := by decide +kernel
theorem dX7_serve_33 : decode cX7_serve 33 = .ok (.if_icmp .le 4, 3) := by decide +kernel
theorem dX7_serve_36 : decode cX7_serve 36 = .ok (.return_, 1) := by decide +kernel
theorem dX7_serve_37 : decode cX7_serve 37 = .ok (.aload_n 0, 1) := by decide +kernel
theorem dX7_serve_38 : decode cX7_serve 38 = .ok (.aload_n 3, 1) := by decide +kernel
theorem dX7_serve_39 : decode cX7_serve 39 = .ok (.aload_n 1, 1) := by decide +kernel
theorem dX7_serve_40 : decode cX7_serve 40 = .ok (.invokevirtual 306, 3) := by decide +kernel
theorem dX7_serve_43 : decode cX7_serve 43 = .ok (.aload_n 3, 1) := by decide +kernel
theorem dX7_serve_44 : decode cX7_serve 44 = .ok (.getfield 312, 3) := by decide +kernel
theorem dX7_serve_47 : decode cX7_serve 47 = .ok (.ifCond .eq 21, 3) := by decide +kernel
theorem dX7_serve_50 : decode cX7_serve 50 = .ok (.aload_n 0, 1) := by decide +kernel
theorem dX7_serve_51 : decode cX7_serve 51 = .ok (.aload_n 3, 1) := by decide +kernel
theorem dX7_serve_52 : decode cX7_serve 52 = .ok (.iconst 1, 1) := by decide +kernel
theorem dX7_serve_53 : decode cX7_serve 53 = .ok (.aload_n 3, 1) := by decide +kernel
theorem dX7_serve_54 : decode cX7_serve 54 = .ok (.getfield 101, 3) := by decide +kernel
theorem dX7_serve_57 : decode cX7_serve 57 = .ok (.invokevirtual 88, 3) := by decide +kernel
theorem dX7_serve_60 : decode cX7_serve 60 = .ok (.aload_n 3, 1) := by decide +kernel
theorem dX7_serve_61 : decode cX7_serve 61 = .ok (.iconst 0, 1) := by decide +kernel
theorem dX7_serve_62 : decode cX7_serve 62 = .ok (.putfield 101, 3) := by decide +kernel
theorem dX7_serve_65 : decode cX7_serve 65 = .ok (.goto 10, 3) := by decide +kernel
theorem dX7_serve_68 : decode cX7_serve 68 = .ok (.aload_n 0, 1) := by decide +kernel
theorem dX7_serve_69 : decode cX7_serve 69 = .ok (.aload_n 3, 1) := by decide +kernel
theorem dX7_serve_70 : decode cX7_serve 70 = .ok (.iconst 0, 1) := by decide +kernel
theorem dX7_serve_71 : decode cX7_serve 71 = .ok (.iconst 0, 1) := by decide +kernel
theorem dX7_serve_72 : decode cX7_serve 72 = .ok (.invokevirtual 88, 3) := by decide +kernel
theorem dX7_serve_75 : decode cX7_serve 75 = .ok (.iinc 2 1, 3) := by decide +kernel
theorem dX7_serve_78 : decode cX7_serve 78 = .ok (.goto (-76), 3) := by decide +kernel
theorem dX7_serve_81 : decode cX7_serve 81 = .ok (.return_, 1) := by decide +kernel
theorem dX7_exchange_0 : decode cX7_exchange 0 = .ok (.aload_n 2, 1) := by decide +kernel
theorem dX7_exchange_1 : decode cX7_exchange 1 = .ok (.ifnonnull 4, 3) := by decide +kernel
theorem dX7_exchange_4 : decode cX7_exchange 4 = .ok (.return_, 1) := by decide +kernel
theorem dX7_exchange_5 : decode cX7_exchange 5 = .ok (.iload_n 3, 1) := by decide +kernel
theorem dX7_exchange_6 : decode cX7_exchange 6 = .ok (.aload_n 2, 1) := by decide +kernel
theorem dX7_exchange_7 : decode cX7_exchange 7 = .ok (.getfield 333, 3) := by decide +kernel
theorem dX7_exchange_10 : decode cX7_exchange 10 = .ok (.if_icmp .le 10, 3) := by decide +kernel
theorem dX7_exchange_13 : decode cX7_exchange 13 = .ok (.aload_n 1, 1) := by decide +kernel
theorem dX7_exchange_14 : decode cX7_exchange 14 = .ok (.bipush 6, 2) := by decide +kernel
theorem dX7_exchange_16 : decode cX7_exchange 16 = .ok (.putfield 92, 3) := by decide +kernel
theorem dX7_exchange_19 : decode cX7_exchange 19 = .ok (.return_, 1) := by decide +kernel
theorem dX7_exchange_20 : decode cX7_exchange 20 = .ok (.iload 4, 2) := by decide +kernel
theorem dX7_exchange_22 : decode cX7_exchange 22 = .ok (.ifCond .eq 8, 3) := by decide +kernel
theorem dX7_exchange_25 : decode cX7_exchange 25 = .ok (.iload_n 3, 1) := by decide +kernel
theorem dX7_exchange_26 : decode cX7_exchange 26 = .ok (.ineg, 1) := by decide +kernel
theorem dX7_exchange_27 : decode cX7_exchange 27 = .ok (.goto 4, 3) := by decide +kernel
theorem dX7_exchange_30 : decode cX7_exchange 30 = .ok (.iload_n 3, 1) := by decide +kernel
theorem dX7_exchange_31 : decode cX7_exchange 31 = .ok (.istore 5, 2) := by decide +kernel
theorem dX7_exchange_33 : decode cX7_exchange 33 = .ok (.aload_n 2, 1) := by decide +kernel
theorem dX7_exchange_34 : decode cX7_exchange 34 = .ok (.iload 4, 2) := by decide +kernel
theorem dX7_exchange_36 : decode cX7_exchange 36 = .ok (.invokevirtual 336, 3) := by decide +kernel
theorem dX7_exchange_39 : decode cX7_exchange 39 = .ok (.istore 6, 2) := by decide +kernel
theorem dX7_exchange_41 : decode cX7_exchange 41 = .ok (.aload_n 0, 1) := by decide +kernel
theorem dX7_exchange_42 : decode cX7_exchange 42 = .ok (.iload 6, 2) := by decide +kernel
theorem dX7_exchange_44 : decode cX7_exchange 44 = .ok (.invokevirtual 237, 3) := by decide +kernel
theorem dX7_exchange_47 : decode cX7_exchange 47 = .ok (.ifnonnull 31, 3) := by decide +kernel
theorem dX7_exchange_50 : decode cX7_exchange 50 = .ok (.aload_n 2, 1) := by decide +kernel
theorem dX7_exchange_51 : decode cX7_exchange 51 = .ok (.iload 5, 2) := by decide +kernel
theorem dX7_exchange_53 : decode cX7_exchange 53 = .ok (.invokevirtual 339, 3) := by decide +kernel
theorem dX7_exchange_56 : decode cX7_exchange 56 = .ok (.ifCond .eq 22, 3) := by decide +kernel
theorem dX7_exchange_59 : decode cX7_exchange 59 = .ok (.aload_n 2, 1) := by decide +kernel
theorem dX7_exchange_60 : decode cX7_exchange 60 = .ok (.dup, 1) := by decide +kernel
theorem dX7_exchange_61 : decode cX7_exchange 61 = .ok (.getfield 147, 3) := by decide +kernel
theorem dX7_exchange_64 : decode cX7_exchange 64 = .ok (.iload 5, 2) := by decide +kernel
theorem dX7_exchange_66 : decode cX7_exchange 66 = .ok (.iadd, 1) := by decide +kernel
theorem dX7_exchange_67 : decode cX7_exchange 67 = .ok (.putfield 147, 3) := by decide +kernel
theorem dX7_exchange_70 : decode cX7_exchange 70 = .ok (.aload_n 0, 1) := by decide +kernel
theorem dX7_exchange_71 : decode cX7_exchange 71 = .ok (.aload_n 2, 1) := by decide +kernel
theorem dX7_exchange_72 : decode cX7_exchange 72 = .ok (.invokevirtual 268, 3) := by decide +kernel
theorem dX7_exchange_75 : decode cX7_exchange 75 = .ok (.goto 17, 3) := by decide +kernel
theorem dX7_exchange_78 : decode cX7_exchange 78 = .ok (.aload_n 0, 1) := by decide +kernel
theorem dX7_exchange_79 : decode cX7_exchange 79 = .ok (.aload_n 1, 1) := by decide +kernel
theorem dX7_exchange_80 : decode cX7_exchange 80 = .ok (.iload 6, 2) := by decide +kernel
theorem dX7_exchange_82 : decode cX7_exchange 82 = .ok (.iconst 3, 1) := by decide +kernel
theorem dX7_exchange_83 : decode cX7_exchange 83 = .ok (.invokevirtual 212, 3) := by decide +kernel
theorem dX7_exchange_86 : decode cX7_exchange 86 = .ok (.aload_n 1, 1) := by decide +kernel
theorem dX7_exchange_87 : decode cX7_exchange 87 = .ok (.iload 5, 2) := by decide +kernel
theorem dX7_exchange_89 : decode cX7_exchange 89 = .ok (.putfield 309, 3) := by decide +kernel
theorem dX7_exchange_92 : decode cX7_exchange 92 = .ok (.return_, 1) := by decide +kernel
theorem dX7_goOnWith_0 : decode cX7_goOnWith 0 = .ok (.iconst 0, 1) := by decide +kernel
theorem dX7_goOnWith_1 : decode cX7_goOnWith 1 = .ok (.istore_n 2, 1) := by decide +kernel
theorem dX7_goOnWith_2 : decode cX7_goOnWith 2 = .ok (.aload_n 1, 1) := by decide +kernel
theorem dX7_goOnWith_3 : decode cX7_goOnWith 3 = .ok (.ifnull 91, 3) := by decide +kernel
theorem dX7_goOnWith_6 : decode cX7_goOnWith 6 = .ok (.iload_n 2, 1) := by decide +kernel
theorem dX7_goOnWith_7 : decode cX7_goOnWith 7 = .ok (.bipush 24, 2) := by decide +kernel
theorem dX7_goOnWith_9 : decode cX7_goOnWith 9 = .ok (.if_icmp .ge 85, 3) := by decide +kernel
theorem dX7_goOnWith_12 : decode cX7_goOnWith 12 = .ok (.aload_n 0, 1) := by decide +kernel
theorem dX7_goOnWith_13 : decode cX7_goOnWith 13 = .ok (.aload_n 1, 1) := by decide +kernel
theorem dX7_goOnWith_14 : decode cX7_goOnWith 14 = .ok (.iconst 1, 1) := by decide +kernel
theorem dX7_goOnWith_15 : decode cX7_goOnWith 15 = .ok (.invokevirtual 336, 3) := by decide +kernel
theorem dX7_goOnWith_18 : decode cX7_goOnWith 18 = .ok (.invokevirtual 237, 3) := by decide +kernel
theorem dX7_goOnWith_21 : decode cX7_goOnWith 21 = .ok (.astore_n 3, 1) := by decide +kernel
theorem dX7_goOnWith_22 : decode cX7_goOnWith 22 = .ok (.aload_n 3, 1) := by decide +kernel
theorem dX7_goOnWith_23 : decode cX7_goOnWith 23 = .ok (.ifnull 14, 3) := by decide +kernel
theorem dX7_goOnWith_26 : decode cX7_goOnWith 26 = .ok (.aload_n 1, 1) := by decide +kernel
theorem dX7_goOnWith_27 : decode cX7_goOnWith 27 = .ok (.aload_n 3, 1) := by decide +kernel
theorem dX7_goOnWith_28 : decode cX7_goOnWith 28 = .ok (.getfield 309, 3) := by decide +kernel
theorem dX7_goOnWith_31 : decode cX7_goOnWith 31 = .ok (.invokevirtual 339, 3) := by decide +kernel
theorem dX7_goOnWith_34 : decode cX7_goOnWith 34 = .ok (.ifCond .ne 13, 3) := by decide +kernel
theorem dX7_goOnWith_37 : decode cX7_goOnWith 37 = .ok (.aload_n 0, 1) := by decide +kernel
theorem dX7_goOnWith_38 : decode cX7_goOnWith 38 = .ok (.aload_n 1, 1) := by decide +kernel
theorem dX7_goOnWith_39 : decode cX7_goOnWith 39 = .ok (.iconst 0, 1) := by decide +kernel
theorem dX7_goOnWith_40 : decode cX7_goOnWith 40 = .ok (.invokevirtual 336, 3) := by decide +kernel
theorem dX7_goOnWith_43 : decode cX7_goOnWith 43 = .ok (.invokevirtual 237, 3) := by decide +kernel
theorem dX7_goOnWith_46 : decode cX7_goOnWith 46 = .ok (.astore_n 3, 1) := by decide +kernel
theorem dX7_goOnWith_47 : decode cX7_goOnWith 47 = .ok (.aload_n 3, 1) := by decide +kernel
theorem dX7_goOnWith_48 : decode cX7_goOnWith 48 = .ok (.ifnull 14, 3) := by decide +kernel
theorem dX7_goOnWith_51 : decode cX7_goOnWith 51 = .ok (.aload_n 1, 1) := by decide +kernel
theorem dX7_goOnWith_52 : decode cX7_goOnWith 52 = .ok (.aload_n 3, 1) := by decide +kernel
theorem dX7_goOnWith_53 : decode cX7_goOnWith 53 = .ok (.getfield 309, 3) := by decide +kernel
theorem dX7_goOnWith_56 : decode cX7_goOnWith 56 = .ok (.invokevirtual 339, 3) := by decide +kernel
theorem dX7_goOnWith_59 : decode cX7_goOnWith 59 = .ok (.ifCond .ne 4, 3) := by decide +kernel
theorem dX7_goOnWith_62 : decode cX7_goOnWith 62 = .ok (.return_, 1) := by decide +kernel
theorem dX7_goOnWith_63 : decode cX7_goOnWith 63 = .ok (.aload_n 3, 1) := by decide +kernel
theorem dX7_goOnWith_64 : decode cX7_goOnWith 64 = .ok (.iconst (-1), 1) := by decide +kernel
theorem dX7_goOnWith_65 : decode cX7_goOnWith 65 = .ok (.putfield 240, 3) := by decide +kernel
theorem dX7_goOnWith_68 : decode cX7_goOnWith 68 = .ok (.aload_n 1, 1) := by decide +kernel
theorem dX7_goOnWith_69 : decode cX7_goOnWith 69 = .ok (.dup, 1) := by decide +kernel
theorem dX7_goOnWith_70 : decode cX7_goOnWith 70 = .ok (.getfield 147, 3) := by decide +kernel
theorem dX7_goOnWith_73 : decode cX7_goOnWith 73 = .ok (.aload_n 3, 1) := by decide +kernel
theorem dX7_goOnWith_74 : decode cX7_goOnWith 74 = .ok (.getfield 309, 3) := by decide +kernel
theorem dX7_goOnWith_77 : decode cX7_goOnWith 77 = .ok (.iadd, 1) := by decide +kernel
theorem dX7_goOnWith_78 : decode cX7_goOnWith 78 = .ok (.putfield 147, 3) := by decide +kernel
theorem dX7_goOnWith_81 : decode cX7_goOnWith 81 = .ok (.aload_n 0, 1) := by decide +kernel
theorem dX7_goOnWith_82 : decode cX7_goOnWith 82 = .ok (.aload_n 3, 1) := by decide +kernel
theorem dX7_goOnWith_83 : decode cX7_goOnWith 83 = .ok (.iconst 0, 1) := by decide +kernel
theorem dX7_goOnWith_84 : decode cX7_goOnWith 84 = .ok (.iconst 0, 1) := by decide +kernel
theorem dX7_goOnWith_85 : decode cX7_goOnWith 85 = .ok (.invokevirtual 88, 3) := by decide +kernel
theorem dX7_goOnWith_88 : decode cX7_goOnWith 88 = .ok (.iinc 2 1, 3) := by decide +kernel
theorem dX7_goOnWith_91 : decode cX7_goOnWith 91 = .ok (.goto (-89), 3) := by decide +kernel
theorem dX7_goOnWith_94 : decode cX7_goOnWith 94 = .ok (.return_, 1) := by decide +kernel
theorem dX8_init_0 : decode cX8_init 0 = .ok (.aload_n 0, 1) := by decide +kernel
theorem dX8_init_1 : decode cX8_init 1 = .ok (.invokespecial 3, 3) := by decide +kernel
theorem dX8_init_4 : decode cX8_init 4 = .ok (.new 9, 3) := by decide +kernel
theorem dX8_init_7 : decode cX8_init 7 = .ok (.dup, 1) := by decide +kernel
theorem dX8_init_8 : decode cX8_init 8 = .ok (.invokespecial 11, 3) := by decide +kernel
theorem dX8_init_11 : decode cX8_init 11 = .ok (.astore_n 1, 1) := by decide +kernel
theorem dX8_init_12 : decode cX8_init 12 = .ok (.new 9, 3) := by decide +kernel
theorem dX8_init_15 : decode cX8_init 15 = .ok (.dup, 1) := by decide +kernel
theorem dX8_init_16 : decode cX8_init 16 = .ok (.invokespecial 11, 3) := by decide +kernel
theorem dX8_init_19 : decode cX8_init 19 = .ok (.astore_n 2, 1) := by decide +kernel
theorem dX8_init_20 : decode cX8_init 20 = .ok (.aload_n 0, 1) := by decide +kernel
theorem dX8_init_21 : decode cX8_init 21 = .ok (.aload_n 1, 1) := by decide +kernel
theorem dX8_init_22 : decode cX8_init 22 = .ok (.putfield 12, 3) := by decide +kernel
theorem dX8_init_25 : decode cX8_init 25 = .ok (.aload_n 0, 1) := by decide +kernel
theorem dX8_init_26 : decode cX8_init 26 = .ok (.aload_n 2, 1) := by decide +kernel
theorem dX8_init_27 : decode cX8_init 27 = .ok (.putfield 16, 3) := by decide +kernel
theorem dX8_init_30 : decode cX8_init 30 = .ok (.aload_n 0, 1) := by decide +kernel
theorem dX8_init_31 : decode cX8_init 31 = .ok (.new 19, 3) := by decide +kernel
theorem dX8_init_34 : decode cX8_init 34 = .ok (.dup, 1) := by decide +kernel
theorem dX8_init_35 : decode cX8_init 35 = .ok (.aload_n 1, 1) := by decide +kernel
theorem dX8_init_36 : decode cX8_init 36 = .ok (.aload_n 2, 1) := by decide +kernel
theorem dX8_init_37 : decode cX8_init 37 = .ok (.invokespecial 21, 3) := by decide +kernel
theorem dX8_init_40 : decode cX8_init 40 = .ok (.putfield 24, 3) := by decide +kernel
theorem dX8_init_43 : decode cX8_init 43 = .ok (.aload_n 0, 1) := by decide +kernel
theorem dX8_init_44 : decode cX8_init 44 = .ok (.new 19, 3) := by decide +kernel
theorem dX8_init_47 : decode cX8_init 47 = .ok (.dup, 1) := by decide +kernel
theorem dX8_init_48 : decode cX8_init 48 = .ok (.aload_n 1, 1) := by decide +kernel
theorem dX8_init_49 : decode cX8_init 49 = .ok (.new 9, 3) := by decide +kernel
theorem dX8_init_52 : decode cX8_init 52 = .ok (.dup, 1) := by decide +kernel
theorem dX8_init_53 : decode cX8_init 53 = .ok (.invokespecial 11, 3) := by decide +kernel
theorem dX8_init_56 : decode cX8_init 56 = .ok (.invokespecial 21, 3) := by decide +kernel
theorem dX8_init_59 : decode cX8_init 59 = .ok (.putfield 28, 3) := by decide +kernel
theorem dX8_init_62 : decode cX8_init 62 = .ok (.return_, 1) := by decide +kernel
theorem dX8_addResource_0 : decode cX8_addResource 0 = .ok (.iload_n 1, 1) := by decide +kernel
theorem dX8_addResource_1 : decode cX8_addResource 1 = .ok (.iconst 0, 1) := by decide +kernel
theorem dX8_addResource_2 : decode cX8_addResource 2 = .ok (.iconst 2, 1) := by decide +kernel
theorem dX8_addResource_3 : decode cX8_addResource 3 = .ok (.invokestatic 31, 3) := by decide +kernel
theorem dX8_addResource_6 : decode cX8_addResource 6 = .ok (.ifCond .eq 13, 3) := by decide +kernel
theorem dX8_addResource_9 : decode cX8_addResource 9 = .ok (.iload_n 2, 1) := by decide +kernel
theorem dX8_addResource_10 : decode cX8_addResource 10 = .ok (.iconst 1, 1) := by decide +kernel
theorem dX8_addResource_11 : decode cX8_addResource 11 = .ok (.bipush 9, 2) := by decide +kernel
theorem dX8_addResource_13 : decode cX8_addResource 13 = .ok (.invokestatic 31, 3) := by decide +kernel
theorem dX8_addResource_16 : decode cX8_addResource 16 = .ok (.ifCond .ne 13, 3) := by decide +kernel
theorem dX8_addResource_19 : decode cX8_addResource 19 = .ok (.new 35, 3) := by decide +kernel
theorem dX8_addResource_22 : decode cX8_addResource 22 = .ok (.dup, 1) := by decide +kernel
theorem dX8_addResource_23 : decode cX8_addResource 23 = .ok (.ldc 37, 2) := by decide +kernel
theorem dX8_addResource_25 : decode cX8_addResource 25 = .ok (.invokespecial 39, 3) := by decide +kernel
theorem dX8_addResource_28 : decode cX8_addResource 28 = .ok (.athrow, 1) := by decide +kernel
theorem dX8_addResource_29 : decode cX8_addResource 29 = .ok (.aload_n 0, 1) := by decide +kernel
theorem dX8_addResource_30 : decode cX8_addResource 30 = .ok (.getfield 24, 3) := by decide +kernel
theorem dX8_addResource_33 : decode cX8_addResource 33 = .ok (.getfield 42, 3) := by decide +kernel
theorem dX8_addResource_36 : decode cX8_addResource 36 = .ok (.invokevirtual 45, 3) := by decide +kernel
theorem dX8_addResource_39 : decode cX8_addResource 39 = .ok (.istore_n 3, 1) := by decide +kernel
theorem dX8_addResource_40 : decode cX8_addResource 40 = .ok (.iload_n 3, 1) := by decide +kernel
theorem dX8_addResource_41 : decode cX8_addResource 41 = .ok (.bipush 6, 2) := by decide +kernel
theorem dX8_addResource_43 : decode cX8_addResource 43 = .ok (.if_icmp .lt 13, 3) := by decide +kernel
theorem dX8_addResource_46 : decode cX8_addResource 46 = .ok (.new 49, 3) := by decide +kernel
theorem dX8_addResource_49 : decode cX8_addResource 49 = .ok (.dup, 1) := by decide +kernel
theorem dX8_addResource_50 : decode cX8_addResource 50 = .ok (.ldc 51, 2) := by decide +kernel
theorem dX8_addResource_52 : decode cX8_addResource 52 = .ok (.invokespecial 53, 3) := by decide +kernel
theorem dX8_addResource_55 : decode cX8_addResource 55 = .ok (.athrow, 1) := by decide +kernel
theorem dX8_addResource_56 : decode cX8_addResource 56 = .ok (.aload_n 0, 1) := by decide +kernel
theorem dX8_addResource_57 : decode cX8_addResource 57 = .ok (.getfield 24, 3) := by decide +kernel
theorem dX8_addResource_60 : decode cX8_addResource 60 = .ok (.getfield 42, 3) := by decide +kernel
theorem dX8_addResource_63 : decode cX8_addResource 63 = .ok (.new 54, 3) := by decide +kernel
theorem dX8_addResource_66 : decode cX8_addResource 66 = .ok (.dup, 1) := by decide +kernel
theorem dX8_addResource_67 : decode cX8_addResource 67 = .ok (.iload_n 3, 1) := by decide +kernel
theorem dX8_addResource_68 : decode cX8_addResource 68 = .ok (.iload_n 1, 1) := by decide +kernel
theorem dX8_addResource_69 : decode cX8_addResource 69 = .ok (.iload_n 2, 1) := by decide +kernel
theorem dX8_addResource_70 : decode cX8_addResource 70 = .ok (.invokespecial 56, 3) := by decide +kernel
theorem dX8_addResource_73 : decode cX8_addResource 73 = .ok (.invokevirtual 59, 3) := by decide +kernel
theorem dX8_addResource_76 : decode cX8_addResource 76 = .ok (.pop, 1) := by decide +kernel
theorem dX8_addResource_77 : decode cX8_addResource 77 = .ok (.aload_n 0, 1) := by decide +kernel
theorem dX8_addResource_78 : decode cX8_addResource 78 = .ok (.getfield 28, 3) := by decide +kernel
theorem dX8_addResource_81 : decode cX8_addResource 81 = .ok (.getfield 42, 3) := by decide +kernel
theorem dX8_addResource_84 : decode cX8_addResource 84 = .ok (.new 54, 3) := by decide +kernel
theorem dX8_addResource_87 : decode cX8_addResource 87 = .ok (.dup, 1) := by decide +kernel
theorem dX8_addResource_88 : decode cX8_addResource 88 = .ok (.iload_n 3, 1) := by decide +kernel
theorem dX8_addResource_89 : decode cX8_addResource 89 = .ok (.iload_n 1, 1) := by decide +kernel
theorem dX8_addResource_90 : decode cX8_addResource 90 = .ok (.iload_n 2, 1) := by decide +kernel
theorem dX8_addResource_91 : decode cX8_addResource 91 = .ok (.invokespecial 56, 3) := by decide +kernel
theorem dX8_addResource_94 : decode cX8_addResource 94 = .ok (.invokevirtual 59, 3) := by decide +kernel
theorem dX8_addResource_97 : decode cX8_addResource 97 = .ok (.pop, 1) := by decide +kernel
theorem dX8_addResource_98 : decode cX8_addResource 98 = .ok (.iload_n 3, 1) := by decide +kernel
theorem dX8_addResource_99 : decode cX8_addResource 99 = .ok (.ireturn, 1) := by decide +kernel
theorem dX8_addStore_0 : decode cX8_addStore 0 = .ok (.iload_n 1, 1) := by decide +kernel
theorem dX8_addStore_1 : decode cX8_addStore 1 = .ok (.iconst 1, 1) := by decide +kernel
theorem dX8_addStore_2 : decode cX8_addStore 2 = .ok (.bipush 99, 2) := by decide +kernel
theorem dX8_addStore_4 : decode cX8_addStore 4 = .ok (.invokestatic 31, 3) := by decide +kernel
theorem dX8_addStore_7 : decode cX8_addStore 7 = .ok (.ifCond .eq 12, 3) := by decide +kernel
theorem dX8_addStore_10 : decode cX8_addStore 10 = .ok (.iload_n 2, 1) := by decide +kernel
theorem dX8_addStore_11 : decode cX8_addStore 11 = .ok (.iconst 0, 1) := by decide +kernel
theorem dX8_addStore_12 : decode cX8_addStore 12 = .ok (.iload_n 1, 1) := by decide +kernel
theorem dX8_addStore_13 : decode cX8_addStore 13 = .ok (.invokestatic 31, 3) := by decide +kernel
theorem dX8_addStore_16 : decode cX8_addStore 16 = .ok (.ifCond .ne 13, 3) := by decide +kernel
theorem dX8_addStore_19 : decode cX8_addStore 19 = .ok (.new 35, 3) := by decide +kernel
theorem dX8_addStore_22 : decode cX8_addStore 22 = .ok (.dup, 1) := by decide +kernel
theorem dX8_addStore_23 : decode cX8_addStore 23 = .ok (.ldc 63, 2) := by decide +kernel
theorem dX8_addStore_25 : decode cX8_addStore 25 = .ok (.invokespecial 39, 3) := by decide +kernel
theorem dX8_addStore_28 : decode cX8_addStore 28 = .ok (.athrow, 1) := by decide +kernel
theorem dX8_addStore_29 : decode cX8_addStore 29 = .ok (.aload_n 0, 1) := by decide +kernel
theorem dX8_addStore_30 : decode cX8_addStore 30 = .ok (.getfield 24, 3) := by decide +kernel
theorem dX8_addStore_33 : decode cX8_addStore 33 = .ok (.getfield 65, 3) := by decide +kernel
theorem dX8_addStore_36 : decode cX8_addStore 36 = .ok (.invokevirtual 45, 3) := by decide +kernel
theorem dX8_addStore_39 : decode cX8_addStore 39 = .ok (.istore_n 3, 1) := by decide +kernel
theorem dX8_addStore_40 : decode cX8_addStore 40 = .ok (.iload_n 3, 1) := by decide +kernel
theorem dX8_addStore_41 : decode cX8_addStore 41 = .ok (.iconst 4, 1) := by decide +kernel
theorem dX8_addStore_42 : decode cX8_addStore 42 = .ok (.if_icmp .lt 13, 3) := by decide +kernel
theorem dX8_addStore_45 : decode cX8_addStore 45 = .ok (.new 49, 3) := by decide +kernel
theorem dX8_addStore_48 : decode cX8_addStore 48 = .ok (.dup, 1) := by decide +kernel
theorem dX8_addStore_49 : decode cX8_addStore 49 = .ok (.ldc 68, 2) := by decide +kernel
theorem dX8_addStore_51 : decode cX8_addStore 51 = .ok (.invokespecial 53, 3) := by decide +kernel
theorem dX8_addStore_54 : decode cX8_addStore 54 = .ok (.athrow, 1) := by decide +kernel
theorem dX8_addStore_55 : decode cX8_addStore 55 = .ok (.aload_n 0, 1) := by decide +kernel
theorem dX8_addStore_56 : decode cX8_addStore 56 = .ok (.getfield 24, 3) := by decide +kernel
theorem dX8_addStore_59 : decode cX8_addStore 59 = .ok (.getfield 65, 3) := by decide +kernel
theorem dX8_addStore_62 : decode cX8_addStore 62 = .ok (.new 70, 3) := by decide +kernel
theorem dX8_addStore_65 : decode cX8_addStore 65 = .ok (.dup, 1) := by decide +kernel
theorem dX8_addStore_66 : decode cX8_addStore 66 = .ok (.iload_n 3, 1) := by decide +kernel
theorem dX8_addStore_67 : decode cX8_addStore 67 = .ok (.iload_n 1, 1) := by decide +kernel
theorem dX8_addStore_68 : decode cX8_addStore 68 = .ok (.iload_n 2, 1) := by decide +kernel
theorem dX8_addStore_69 : decode cX8_addStore 69 = .ok (.invokespecial 72, 3) := by decide +kernel
theorem dX8_addStore_72 : decode cX8_addStore 72 = .ok (.invokevirtual 59, 3) := by decide +kernel
theorem dX8_addStore_75 : decode cX8_addStore 75 = .ok (.pop, 1) := by decide +kernel
theorem dX8_addStore_76 : decode cX8_addStore 76 = .ok (.aload_n 0, 1) := by decide +kernel
theorem dX8_addStore_77 : decode cX8_addStore 77 = .ok (.getfield 28, 3) := by decide +kernel
theorem dX8_addStore_80 : decode cX8_addStore 80 = .ok (.getfield 65, 3) := by decide +kernel
theorem dX8_addStore_83 : decode cX8_addStore 83 = .ok (.new 70, 3) := by decide +kernel
theorem dX8_addStore_86 : decode cX8_addStore 86 = .ok (.dup, 1) := by decide +kernel
theorem dX8_addStore_87 : decode cX8_addStore 87 = .ok (.iload_n 3, 1) := by decide +kernel
theorem dX8_addStore_88 : decode cX8_addStore 88 = .ok (.iload_n 1, 1) := by decide +kernel
theorem dX8_addStore_89 : decode cX8_addStore 89 = .ok (.iload_n 2, 1) := by decide +kernel
theorem dX8_addStore_90 : decode cX8_addStore 90 = .ok (.invokespecial 72, 3) := by decide +kernel
theorem dX8_addStore_93 : decode cX8_addStore 93 = .ok (.invokevirtual 59, 3) := by decide +kernel
theorem dX8_addStore_96 : decode cX8_addStore 96 = .ok (.pop, 1) := by decide +kernel
theorem dX8_addStore_97 : decode cX8_addStore 97 = .ok (.iload_n 3, 1) := by decide +kernel
theorem dX8_addStore_98 : decode cX8_addStore 98 = .ok (.ireturn, 1) := by decide +kernel
theorem dX8_addTally_0 : decode cX8_addTally 0 = .ok (.iload_n 1, 1) := by decide +kernel
theorem dX8_addTally_1 : decode cX8_addTally 1 = .ok (.iconst 1, 1) := by decide +kernel
theorem dX8_addTally_2 : decode cX8_addTally 2 = .ok (.bipush 20, 2) := by decide +kernel
theorem dX8_addTally_4 : decode cX8_addTally 4 = .ok (.invokestatic 31, 3) := by decide +kernel
theorem dX8_addTally_7 : decode cX8_addTally 7 = .ok (.ifCond .ne 13, 3) := by decide +kernel
theorem dX8_addTally_10 : decode cX8_addTally 10 = .ok (.new 35, 3) := by decide +kernel
theorem dX8_addTally_13 : decode cX8_addTally 13 = .ok (.dup, 1) := by decide +kernel
theorem dX8_addTally_14 : decode cX8_addTally 14 = .ok (.ldc 73, 2) := by decide +kernel
theorem dX8_addTally_16 : decode cX8_addTally 16 = .ok (.invokespecial 39, 3) := by decide +kernel
theorem dX8_addTally_19 : decode cX8_addTally 19 = .ok (.athrow, 1) := by decide +kernel
theorem dX8_addTally_20 : decode cX8_addTally 20 = .ok (.aload_n 0, 1) := by decide +kernel
theorem dX8_addTally_21 : decode cX8_addTally 21 = .ok (.getfield 16, 3) := by decide +kernel
theorem dX8_addTally_24 : decode cX8_addTally 24 = .ok (.invokevirtual 45, 3) := by decide +kernel
theorem dX8_addTally_27 : decode cX8_addTally 27 = .ok (.iconst 4, 1) := by decide +kernel
theorem dX8_addTally_28 : decode cX8_addTally 28 = .ok (.if_icmp .lt 13, 3) := by decide +kernel
theorem dX8_addTally_31 : decode cX8_addTally 31 = .ok (.new 49, 3) := by decide +kernel
theorem dX8_addTally_34 : decode cX8_addTally 34 = .ok (.dup, 1) := by decide +kernel
theorem dX8_addTally_35 : decode cX8_addTally 35 = .ok (.ldc 75, 2) := by decide +kernel
theorem dX8_addTally_37 : decode cX8_addTally 37 = .ok (.invokespecial 53, 3) := by decide +kernel
theorem dX8_addTally_40 : decode cX8_addTally 40 = .ok (.athrow, 1) := by decide +kernel
theorem dX8_addTally_41 : decode cX8_addTally 41 = .ok (.aload_n 0, 1) := by decide +kernel
theorem dX8_addTally_42 : decode cX8_addTally 42 = .ok (.getfield 16, 3) := by decide +kernel
theorem dX8_addTally_45 : decode cX8_addTally 45 = .ok (.new 77, 3) := by decide +kernel
theorem dX8_addTally_48 : decode cX8_addTally 48 = .ok (.dup, 1) := by decide +kernel
theorem dX8_addTally_49 : decode cX8_addTally 49 = .ok (.iload_n 1, 1) := by decide +kernel
theorem dX8_addTally_50 : decode cX8_addTally 50 = .ok (.invokespecial 79, 3) := by decide +kernel
theorem dX8_addTally_53 : decode cX8_addTally 53 = .ok (.invokevirtual 59, 3) := by decide +kernel
theorem dX8_addTally_56 : decode cX8_addTally 56 = .ok (.pop, 1) := by decide +kernel
theorem dX8_addTally_57 : decode cX8_addTally 57 = .ok (.aload_n 0, 1) := by decide +kernel
theorem dX8_addTally_58 : decode cX8_addTally 58 = .ok (.getfield 16, 3) := by decide +kernel
theorem dX8_addTally_61 : decode cX8_addTally 61 = .ok (.invokevirtual 45, 3) := by decide +kernel
theorem dX8_addTally_64 : decode cX8_addTally 64 = .ok (.iconst 1, 1) := by decide +kernel
theorem dX8_addTally_65 : decode cX8_addTally 65 = .ok (.isub, 1) := by decide +kernel
theorem dX8_addTally_66 : decode cX8_addTally 66 = .ok (.ireturn, 1) := by decide +kernel
theorem dX8_addScript_0 : decode cX8_addScript 0 = .ok (.aload_n 0, 1) := by decide +kernel
theorem dX8_addScript_1 : decode cX8_addScript 1 = .ok (.getfield 12, 3) := by decide +kernel
theorem dX8_addScript_4 : decode cX8_addScript 4 = .ok (.invokevirtual 45, 3) := by decide +kernel
theorem dX8_addScript_7 : decode cX8_addScript 7 = .ok (.bipush 8, 2) := by decide +kernel
theorem dX8_addScript_9 : decode cX8_addScript 9 = .ok (.if_icmp .lt 13, 3) := by decide +kernel
theorem dX8_addScript_12 : decode cX8_addScript 12 = .ok (.new 49, 3) := by decide +kernel
theorem dX8_addScript_15 : decode cX8_addScript 15 = .ok (.dup, 1) := by decide +kernel
theorem dX8_addScript_16 : decode cX8_addScript 16 = .ok (.ldc 82, 2) := by decide +kernel
theorem dX8_addScript_18 : decode cX8_addScript 18 = .ok (.invokespecial 53, 3) := by decide +kernel
theorem dX8_addScript_21 : decode cX8_addScript 21 = .ok (.athrow, 1) := by decide +kernel
theorem dX8_addScript_22 : decode cX8_addScript 22 = .ok (.aload_n 0, 1) := by decide +kernel
theorem dX8_addScript_23 : decode cX8_addScript 23 = .ok (.getfield 12, 3) := by decide +kernel
theorem dX8_addScript_26 : decode cX8_addScript 26 = .ok (.new 84, 3) := by decide +kernel
theorem dX8_addScript_29 : decode cX8_addScript 29 = .ok (.dup, 1) := by decide +kernel
theorem dX8_addScript_30 : decode cX8_addScript 30 = .ok (.invokespecial 86, 3) := by decide +kernel
theorem dX8_addScript_33 : decode cX8_addScript 33 = .ok (.invokevirtual 59, 3) := by decide +kernel
theorem dX8_addScript_36 : decode cX8_addScript 36 = .ok (.pop, 1) := by decide +kernel
theorem dX8_addScript_37 : decode cX8_addScript 37 = .ok (.aload_n 0, 1) := by decide +kernel
theorem dX8_addScript_38 : decode cX8_addScript 38 = .ok (.getfield 12, 3) := by decide +kernel
theorem dX8_addScript_41 : decode cX8_addScript 41 = .ok (.invokevirtual 45, 3) := by decide +kernel
theorem dX8_addScript_44 : decode cX8_addScript 44 = .ok (.iconst 1, 1) := by decide +kernel
theorem dX8_addScript_45 : decode cX8_addScript 45 = .ok (.isub, 1) := by decide +kernel
theorem dX8_addScript_46 : decode cX8_addScript 46 = .ok (.ireturn, 1) := by decide +kernel
theorem dX8_add_0 : decode cX8_add 0 = .ok (.aload_n 0, 1) := by decide +kernel
theorem dX8_add_1 : decode cX8_add 1 = .ok (.iload_n 1, 1) := by decide +kernel
theorem dX8_add_2 : decode cX8_add 2 = .ok (.invokevirtual 87, 3) := by decide +kernel
theorem dX8_add_5 : decode cX8_add 5 = .ok (.astore 5, 2) := by decide +kernel
theorem dX8_add_7 : decode cX8_add 7 = .ok (.aload_n 0, 1) := by decide +kernel
theorem dX8_add_8 : decode cX8_add 8 = .ok (.iload_n 2, 1) := by decide +kernel
theorem dX8_add_9 : decode cX8_add 9 = .ok (.iload_n 3, 1) := by decide +kernel
theorem dX8_add_10 : decode cX8_add 10 = .ok (.iload 4, 2) := by decide +kernel
theorem dX8_add_12 : decode cX8_add 12 = .ok (.invokevirtual 91, 3) := by decide +kernel
theorem dX8_add_15 : decode cX8_add 15 = .ok (.ifCond .ne 13, 3) := by decide +kernel
theorem dX8_add_18 : decode cX8_add 18 = .ok (.new 35, 3) := by decide +kernel
theorem dX8_add_21 : decode cX8_add 21 = .ok (.dup, 1) := by decide +kernel
theorem dX8_add_22 : decode cX8_add 22 = .ok (.ldc 94, 2) := by decide +kernel
theorem dX8_add_24 : decode cX8_add 24 = .ok (.invokespecial 39, 3) := by decide +kernel
theorem dX8_add_27 : decode cX8_add 27 = .ok (.athrow, 1) := by decide +kernel
theorem dX8_add_28 : decode cX8_add 28 = .ok (.aload 5, 2) := by decide +kernel
theorem dX8_add_30 : decode cX8_add 30 = .ok (.getfield 96, 3) := by decide +kernel
theorem dX8_add_33 : decode cX8_add 33 = .ok (.invokevirtual 45, 3) := by decide +kernel
theorem dX8_add_36 : decode cX8_add 36 = .ok (.bipush 16, 2) := by decide +kernel
theorem dX8_add_38 : decode cX8_add 38 = .ok (.if_icmp .lt 13, 3) := by decide +kernel
theorem dX8_add_41 : decode cX8_add 41 = .ok (.new 49, 3) := by decide +kernel
theorem dX8_add_44 : decode cX8_add 44 = .ok (.dup, 1) := by decide +kernel
theorem dX8_add_45 : decode cX8_add 45 = .ok (.ldc 99, 2) := by decide +kernel
theorem dX8_add_47 : decode cX8_add 47 = .ok (.invokespecial 53, 3) := by decide +kernel
theorem dX8_add_50 : decode cX8_add 50 = .ok (.athrow, 1) := by decide +kernel
theorem dX8_add_51 : decode cX8_add 51 = .ok (.aload_n 0, 1) := by decide +kernel
theorem dX8_add_52 : decode cX8_add 52 = .ok (.getfield 24, 3) := by decide +kernel
theorem dX8_add_55 : decode cX8_add 55 = .ok (.aload 5, 2) := by decide +kernel
theorem dX8_add_57 : decode cX8_add 57 = .ok (.invokevirtual 101, 3) := by decide +kernel
theorem dX8_add_60 : decode cX8_add 60 = .ok (.ifCond .eq 13, 3) := by decide +kernel
theorem dX8_add_63 : decode cX8_add 63 = .ok (.new 49, 3) := by decide +kernel
theorem dX8_add_66 : decode cX8_add 66 = .ok (.dup, 1) := by decide +kernel
theorem dX8_add_67 : decode cX8_add 67 = .ok (.ldc 105, 2) := by decide +kernel
theorem dX8_add_69 : decode cX8_add 69 = .ok (.invokespecial 53, 3) := by decide +kernel
theorem dX8_add_72 : decode cX8_add 72 = .ok (.athrow, 1) := by decide +kernel
theorem dX8_add_73 : decode cX8_add 73 = .ok (.aload 5, 2) := by decide +kernel
theorem dX8_add_75 : decode cX8_add 75 = .ok (.getfield 96, 3) := by decide +kernel
theorem dX8_add_78 : decode cX8_add 78 = .ok (.invokevirtual 45, 3) := by decide +kernel
theorem dX8_add_81 : decode cX8_add 81 = .ok (.istore 6, 2) := by decide +kernel
theorem dX8_add_83 : decode cX8_add 83 = .ok (.aload 5, 2) := by decide +kernel
theorem dX8_add_85 : decode cX8_add 85 = .ok (.getfield 96, 3) := by decide +kernel
theorem dX8_add_88 : decode cX8_add 88 = .ok (.new 107, 3) := by decide +kernel
theorem dX8_add_91 : decode cX8_add 91 = .ok (.dup, 1) := by decide +kernel
theorem dX8_add_92 : decode cX8_add 92 = .ok (.iload 6, 2) := by decide +kernel
theorem dX8_add_94 : decode cX8_add 94 = .ok (.iload_n 2, 1) := by decide +kernel
theorem dX8_add_95 : decode cX8_add 95 = .ok (.iload_n 3, 1) := by decide +kernel
theorem dX8_add_96 : decode cX8_add 96 = .ok (.iload 4, 2) := by decide +kernel
theorem dX8_add_98 : decode cX8_add 98 = .ok (.invokespecial 109, 3) := by decide +kernel
theorem dX8_add_101 : decode cX8_add 101 = .ok (.invokevirtual 59, 3) := by decide +kernel
theorem dX8_add_104 : decode cX8_add 104 = .ok (.pop, 1) := by decide +kernel
theorem dX8_add_105 : decode cX8_add 105 = .ok (.iload 6, 2) := by decide +kernel
theorem dX8_add_107 : decode cX8_add 107 = .ok (.ireturn, 1) := by decide +kernel
theorem dX8_setHandler_0 : decode cX8_setHandler 0 = .ok (.aload_n 0, 1) := by decide +kernel
theorem dX8_setHandler_1 : decode cX8_setHandler 1 = .ok (.iload_n 1, 1) := by decide +kernel
theorem dX8_setHandler_2 : decode cX8_setHandler 2 = .ok (.invokevirtual 87, 3) := by decide +kernel
theorem dX8_setHandler_5 : decode cX8_setHandler 5 = .ok (.astore_n 3, 1) := by decide +kernel
theorem dX8_setHandler_6 : decode cX8_setHandler 6 = .ok (.iload_n 2, 1) := by decide +kernel
theorem dX8_setHandler_7 : decode cX8_setHandler 7 = .ok (.iconst (-1), 1) := by decide +kernel
theorem dX8_setHandler_8 : decode cX8_setHandler 8 = .ok (.bipush 15, 2) := by decide +kernel
theorem dX8_setHandler_10 : decode cX8_setHandler 10 = .ok (.invokestatic 31, 3) := by decide +kernel
theorem dX8_setHandler_13 : decode cX8_setHandler 13 = .ok (.ifCond .ne 13, 3) := by decide +kernel
theorem dX8_setHandler_16 : decode cX8_setHandler 16 = .ok (.new 35, 3) := by decide +kernel
theorem dX8_setHandler_19 : decode cX8_setHandler 19 = .ok (.dup, 1) := by decide +kernel
theorem dX8_setHandler_20 : decode cX8_setHandler 20 = .ok (.ldc 112, 2) := by decide +kernel
theorem dX8_setHandler_22 : decode cX8_setHandler 22 = .ok (.invokespecial 39, 3) := by decide +kernel
theorem dX8_setHandler_25 : decode cX8_setHandler 25 = .ok (.athrow, 1) := by decide +kernel
theorem dX8_setHandler_26 : decode cX8_setHandler 26 = .ok (.aload_n 3, 1) := by decide +kernel
theorem dX8_setHandler_27 : decode cX8_setHandler 27 = .ok (.getfield 114, 3) := by decide +kernel
theorem dX8_setHandler_30 : decode cX8_setHandler 30 = .ok (.istore 4, 2) := by decide +kernel
theorem dX8_setHandler_32 : decode cX8_setHandler 32 = .ok (.aload_n 3, 1) := by decide +kernel
theorem dX8_setHandler_33 : decode cX8_setHandler 33 = .ok (.iload_n 2, 1) := by decide +kernel
theorem dX8_setHandler_34 : decode cX8_setHandler 34 = .ok (.putfield 114, 3) := by decide +kernel
theorem dX8_setHandler_37 : decode cX8_setHandler 37 = .ok (.iload 4, 2) := by decide +kernel
theorem dX8_setHandler_39 : decode cX8_setHandler 39 = .ok (.ireturn, 1) := by decide +kernel
theorem dX8_setLuck_0 : decode cX8_setLuck 0 = .ok (.iload_n 1, 1) := by decide +kernel
theorem dX8_setLuck_1 : decode cX8_setLuck 1 = .ok (.iconst 0, 1) := by decide +kernel
theorem dX8_setLuck_2 : decode cX8_setLuck 2 = .ok (.sipush 9999, 3) := by decide +kernel
theorem dX8_setLuck_5 : decode cX8_setLuck 5 = .ok (.invokestatic 31, 3) := by decide +kernel
theorem dX8_setLuck_8 : decode cX8_setLuck 8 = .ok (.ifCond .ne 13, 3) := by decide +kernel
theorem dX8_setLuck_11 : decode cX8_setLuck 11 = .ok (.new 35, 3) := by decide +kernel
theorem dX8_setLuck_14 : decode cX8_setLuck 14 = .ok (.dup, 1) := by decide +kernel
theorem dX8_setLuck_15 : decode cX8_setLuck 15 = .ok (.ldc 118, 2) := by decide +kernel
theorem dX8_setLuck_17 : decode cX8_setLuck 17 = .ok (.invokespecial 39, 3) := by decide +kernel
theorem dX8_setLuck_20 : decode cX8_setLuck 20 = .ok (.athrow, 1) := by decide +kernel
theorem dX8_setLuck_21 : decode cX8_setLuck 21 = .ok (.aload_n 0, 1) := by decide +kernel
theorem dX8_setLuck_22 : decode cX8_setLuck 22 = .ok (.getfield 24, 3) := by decide +kernel
theorem dX8_setLuck_25 : decode cX8_setLuck 25 = .ok (.getfield 120, 3) := by decide +kernel
theorem dX8_setLuck_28 : decode cX8_setLuck 28 = .ok (.istore_n 2, 1) := by decide +kernel
theorem dX8_setLuck_29 : decode cX8_setLuck 29 = .ok (.aload_n 0, 1) := by decide +kernel
theorem dX8_setLuck_30 : decode cX8_setLuck 30 = .ok (.getfield 24, 3) := by decide +kernel
theorem dX8_setLuck_33 : decode cX8_setLuck 33 = .ok (.iload_n 1, 1) := by decide +kernel
theorem dX8_setLuck_34 : decode cX8_setLuck 34 = .ok (.putfield 120, 3) := by decide +kernel
theorem dX8_setLuck_37 : decode cX8_setLuck 37 = .ok (.iload_n 2, 1) := by decide +kernel
theorem dX8_setLuck_38 : decode cX8_setLuck 38 = .ok (.ireturn, 1) := by decide +kernel
theorem dX8_start_0 : decode cX8_start 0 = .ok (.aload_n 0, 1) := by decide +kernel
theorem dX8_start_1 : decode cX8_start 1 = .ok (.iload_n 1, 1) := by decide +kernel
theorem dX8_start_2 : decode cX8_start 2 = .ok (.invokevirtual 87, 3) := by decide +kernel
theorem dX8_start_5 : decode cX8_start 5 = .ok (.astore 4, 2) := by decide +kernel
theorem dX8_start_7 : decode cX8_start 7 = .ok (.iload_n 2, 1) := by decide +kernel
theorem dX8_start_8 : decode cX8_start 8 = .ok (.iconst 0, 1) := by decide +kernel
theorem dX8_start_9 : decode cX8_start 9 = .ok (.bipush 9, 2) := by decide +kernel
theorem dX8_start_11 : decode cX8_start 11 = .ok (.invokestatic 31, 3) := by decide +kernel
theorem dX8_start_14 : decode cX8_start 14 = .ok (.ifCond .eq 14, 3) := by decide +kernel
theorem dX8_start_17 : decode cX8_start 17 = .ok (.iload_n 3, 1) := by decide +kernel
theorem dX8_start_18 : decode cX8_start 18 = .ok (.iconst 0, 1) := by decide +kernel
theorem dX8_start_19 : decode cX8_start 19 = .ok (.sipush 999, 3) := by decide +kernel
theorem dX8_start_22 : decode cX8_start 22 = .ok (.invokestatic 31, 3) := by decide +kernel
theorem dX8_start_25 : decode cX8_start 25 = .ok (.ifCond .ne 13, 3) := by decide +kernel
theorem dX8_start_28 : decode cX8_start 28 = .ok (.new 35, 3) := by decide +kernel
theorem dX8_start_31 : decode cX8_start 31 = .ok (.dup, 1) := by decide +kernel
theorem dX8_start_32 : decode cX8_start 32 = .ok (.ldc 123, 2) := by decide +kernel
end
section
theorem dX8_start_34 : decode cX8_start 34 = .ok (.invokespecial 39, 3) := by decide +kernel
theorem dX8_start_37 : decode cX8_start 37 = .ok (.athrow, 1) := by decide +kernel
theorem dX8_start_38 : decode cX8_start 38 = .ok (.aload_n 0, 1) := by decide +kernel
theorem dX8_start_39 : decode cX8_start 39 = .ok (.getfield 24, 3) := by decide +kernel
theorem dX8_start_42 : decode cX8_start 42 = .ok (.getfield 125, 3) := by decide +kernel
theorem dX8_start_45 : decode cX8_start 45 = .ok (.bipush 24, 2) := by decide +kernel
theorem dX8_start_47 : decode cX8_start 47 = .ok (.if_icmp .lt 13, 3) := by decide +kernel
theorem dX8_start_50 : decode cX8_start 50 = .ok (.new 49, 3) := by decide +kernel
theorem dX8_start_53 : decode cX8_start 53 = .ok (.dup, 1) := by decide +kernel
theorem dX8_start_54 : decode cX8_start 54 = .ok (.ldc 128, 2) := by decide +kernel
theorem dX8_start_56 : decode cX8_start 56 = .ok (.invokespecial 53, 3) := by decide +kernel
theorem dX8_start_59 : decode cX8_start 59 = .ok (.athrow, 1) := by decide +kernel
theorem dX8_start_60 : decode cX8_start 60 = .ok (.aload_n 0, 1) := by decide +kernel
theorem dX8_start_61 : decode cX8_start 61 = .ok (.getfield 24, 3) := by decide +kernel
theorem dX8_start_64 : decode cX8_start 64 = .ok (.aload 4, 2) := by decide +kernel
theorem dX8_start_66 : decode cX8_start 66 = .ok (.iload_n 2, 1) := by decide +kernel
theorem dX8_start_67 : decode cX8_start 67 = .ok (.iload_n 3, 1) := by decide +kernel
theorem dX8_start_68 : decode cX8_start 68 = .ok (.invokevirtual 130, 3) := by decide +kernel
theorem dX8_start_71 : decode cX8_start 71 = .ok (.aload_n 0, 1) := by decide +kernel
theorem dX8_start_72 : decode cX8_start 72 = .ok (.getfield 24, 3) := by decide +kernel
theorem dX8_start_75 : decode cX8_start 75 = .ok (.getfield 125, 3) := by decide +kernel
theorem dX8_start_78 : decode cX8_start 78 = .ok (.iconst 1, 1) := by decide +kernel
theorem dX8_start_79 : decode cX8_start 79 = .ok (.isub, 1) := by decide +kernel
theorem dX8_start_80 : decode cX8_start 80 = .ok (.ireturn, 1) := by decide +kernel
theorem dX8_step_0 : decode cX8_step 0 = .ok (.aload_n 0, 1) := by decide +kernel
theorem dX8_step_1 : decode cX8_step 1 = .ok (.getfield 24, 3) := by decide +kernel
theorem dX8_step_4 : decode cX8_step 4 = .ok (.invokevirtual 134, 3) := by decide +kernel
theorem dX8_step_7 : decode cX8_step 7 = .ok (.astore_n 1, 1) := by decide +kernel
theorem dX8_step_8 : decode cX8_step 8 = .ok (.aload_n 1, 1) := by decide +kernel
theorem dX8_step_9 : decode cX8_step 9 = .ok (.ifnonnull 13, 3) := by decide +kernel
theorem dX8_step_12 : decode cX8_step 12 = .ok (.new 49, 3) := by decide +kernel
theorem dX8_step_15 : decode cX8_step 15 = .ok (.dup, 1) := by decide +kernel
theorem dX8_step_16 : decode cX8_step 16 = .ok (.ldc 138, 2) := by decide +kernel
theorem dX8_step_18 : decode cX8_step 18 = .ok (.invokespecial 53, 3) := by decide +kernel
theorem dX8_step_21 : decode cX8_step 21 = .ok (.athrow, 1) := by decide +kernel
theorem dX8_step_22 : decode cX8_step 22 = .ok (.aload_n 1, 1) := by decide +kernel
theorem dX8_step_23 : decode cX8_step 23 = .ok (.getfield 140, 3) := by decide +kernel
theorem dX8_step_26 : decode cX8_step 26 = .ok (.ireturn, 1) := by decide +kernel
theorem dX8_interrupt_0 : decode cX8_interrupt 0 = .ok (.aload_n 0, 1) := by decide +kernel
theorem dX8_interrupt_1 : decode cX8_interrupt 1 = .ok (.iload_n 1, 1) := by decide +kernel
theorem dX8_interrupt_2 : decode cX8_interrupt 2 = .ok (.invokevirtual 151, 3) := by decide +kernel
theorem dX8_interrupt_5 : decode cX8_interrupt 5 = .ok (.astore_n 2, 1) := by decide +kernel
theorem dX8_interrupt_6 : decode cX8_interrupt 6 = .ok (.aload_n 2, 1) := by decide +kernel
theorem dX8_interrupt_7 : decode cX8_interrupt 7 = .ok (.getfield 155, 3) := by decide +kernel
theorem dX8_interrupt_10 : decode cX8_interrupt 10 = .ok (.iconst 1, 1) := by decide +kernel
theorem dX8_interrupt_11 : decode cX8_interrupt 11 = .ok (.iconst 4, 1) := by decide +kernel
theorem dX8_interrupt_12 : decode cX8_interrupt 12 = .ok (.invokestatic 31, 3) := by decide +kernel
theorem dX8_interrupt_15 : decode cX8_interrupt 15 = .ok (.ifCond .ne 13, 3) := by decide +kernel
theorem dX8_interrupt_18 : decode cX8_interrupt 18 = .ok (.new 49, 3) := by decide +kernel
theorem dX8_interrupt_21 : decode cX8_interrupt 21 = .ok (.dup, 1) := by decide +kernel
theorem dX8_interrupt_22 : decode cX8_interrupt 22 = .ok (.ldc 158, 2) := by decide +kernel
theorem dX8_interrupt_24 : decode cX8_interrupt 24 = .ok (.invokespecial 53, 3) := by decide +kernel
theorem dX8_interrupt_27 : decode cX8_interrupt 27 = .ok (.athrow, 1) := by decide +kernel
theorem dX8_interrupt_28 : decode cX8_interrupt 28 = .ok (.aload_n 0, 1) := by decide +kernel
theorem dX8_interrupt_29 : decode cX8_interrupt 29 = .ok (.getfield 24, 3) := by decide +kernel
theorem dX8_interrupt_32 : decode cX8_interrupt 32 = .ok (.aload_n 2, 1) := by decide +kernel
theorem dX8_interrupt_33 : decode cX8_interrupt 33 = .ok (.invokevirtual 160, 3) := by decide +kernel
theorem dX8_interrupt_36 : decode cX8_interrupt 36 = .ok (.aload_n 2, 1) := by decide +kernel
theorem dX8_interrupt_37 : decode cX8_interrupt 37 = .ok (.getfield 164, 3) := by decide +kernel
theorem dX8_interrupt_40 : decode cX8_interrupt 40 = .ok (.ireturn, 1) := by decide +kernel
theorem dX8_cancel_0 : decode cX8_cancel 0 = .ok (.aload_n 0, 1) := by decide +kernel
theorem dX8_cancel_1 : decode cX8_cancel 1 = .ok (.iload_n 1, 1) := by decide +kernel
theorem dX8_cancel_2 : decode cX8_cancel 2 = .ok (.invokevirtual 151, 3) := by decide +kernel
theorem dX8_cancel_5 : decode cX8_cancel 5 = .ok (.astore_n 2, 1) := by decide +kernel
theorem dX8_cancel_6 : decode cX8_cancel 6 = .ok (.aload_n 2, 1) := by decide +kernel
theorem dX8_cancel_7 : decode cX8_cancel 7 = .ok (.invokevirtual 167, 3) := by decide +kernel
theorem dX8_cancel_10 : decode cX8_cancel 10 = .ok (.ifCond .eq 13, 3) := by decide +kernel
theorem dX8_cancel_13 : decode cX8_cancel 13 = .ok (.new 49, 3) := by decide +kernel
theorem dX8_cancel_16 : decode cX8_cancel 16 = .ok (.dup, 1) := by decide +kernel
theorem dX8_cancel_17 : decode cX8_cancel 17 = .ok (.ldc 171, 2) := by decide +kernel
theorem dX8_cancel_19 : decode cX8_cancel 19 = .ok (.invokespecial 53, 3) := by decide +kernel
theorem dX8_cancel_22 : decode cX8_cancel 22 = .ok (.athrow, 1) := by decide +kernel
theorem dX8_cancel_23 : decode cX8_cancel 23 = .ok (.aload_n 2, 1) := by decide +kernel
theorem dX8_cancel_24 : decode cX8_cancel 24 = .ok (.invokevirtual 173, 3) := by decide +kernel
theorem dX8_cancel_27 : decode cX8_cancel 27 = .ok (.istore_n 3, 1) := by decide +kernel
theorem dX8_cancel_28 : decode cX8_cancel 28 = .ok (.aload_n 0, 1) := by decide +kernel
theorem dX8_cancel_29 : decode cX8_cancel 29 = .ok (.getfield 24, 3) := by decide +kernel
theorem dX8_cancel_32 : decode cX8_cancel 32 = .ok (.aload_n 2, 1) := by decide +kernel
theorem dX8_cancel_33 : decode cX8_cancel 33 = .ok (.bipush 7, 2) := by decide +kernel
theorem dX8_cancel_35 : decode cX8_cancel 35 = .ok (.invokevirtual 176, 3) := by decide +kernel
theorem dX8_cancel_38 : decode cX8_cancel 38 = .ok (.iload_n 3, 1) := by decide +kernel
theorem dX8_cancel_39 : decode cX8_cancel 39 = .ok (.ireturn, 1) := by decide +kernel
theorem dX8_time_0 : decode cX8_time 0 = .ok (.aload_n 0, 1) := by decide +kernel
theorem dX8_time_1 : decode cX8_time 1 = .ok (.getfield 24, 3) := by decide +kernel
theorem dX8_time_4 : decode cX8_time 4 = .ok (.getfield 180, 3) := by decide +kernel
theorem dX8_time_7 : decode cX8_time 7 = .ok (.ireturn, 1) := by decide +kernel
theorem dX8_luck_0 : decode cX8_luck 0 = .ok (.aload_n 0, 1) := by decide +kernel
theorem dX8_luck_1 : decode cX8_luck 1 = .ok (.getfield 24, 3) := by decide +kernel
theorem dX8_luck_4 : decode cX8_luck 4 = .ok (.getfield 120, 3) := by decide +kernel
theorem dX8_luck_7 : decode cX8_luck 7 = .ok (.ireturn, 1) := by decide +kernel
theorem dX8_events_0 : decode cX8_events 0 = .ok (.aload_n 0, 1) := by decide +kernel
theorem dX8_events_1 : decode cX8_events 1 = .ok (.getfield 24, 3) := by decide +kernel
theorem dX8_events_4 : decode cX8_events 4 = .ok (.invokevirtual 183, 3) := by decide +kernel
theorem dX8_events_7 : decode cX8_events 7 = .ok (.ireturn, 1) := by decide +kernel
theorem dX8_nextTime_0 : decode cX8_nextTime 0 = .ok (.aload_n 0, 1) := by decide +kernel
theorem dX8_nextTime_1 : decode cX8_nextTime 1 = .ok (.getfield 24, 3) := by decide +kernel
theorem dX8_nextTime_4 : decode cX8_nextTime 4 = .ok (.invokevirtual 186, 3) := by decide +kernel
theorem dX8_nextTime_7 : decode cX8_nextTime 7 = .ok (.astore_n 1, 1) := by decide +kernel
theorem dX8_nextTime_8 : decode cX8_nextTime 8 = .ok (.aload_n 1, 1) := by decide +kernel
theorem dX8_nextTime_9 : decode cX8_nextTime 9 = .ok (.ifnonnull 7, 3) := by decide +kernel
theorem dX8_nextTime_12 : decode cX8_nextTime 12 = .ok (.iconst (-1), 1) := by decide +kernel
theorem dX8_nextTime_13 : decode cX8_nextTime 13 = .ok (.goto 7, 3) := by decide +kernel
theorem dX8_nextTime_16 : decode cX8_nextTime 16 = .ok (.aload_n 1, 1) := by decide +kernel
theorem dX8_nextTime_17 : decode cX8_nextTime 17 = .ok (.getfield 189, 3) := by decide +kernel
theorem dX8_nextTime_20 : decode cX8_nextTime 20 = .ok (.ireturn, 1) := by decide +kernel
theorem dX8_processes_0 : decode cX8_processes 0 = .ok (.aload_n 0, 1) := by decide +kernel
theorem dX8_processes_1 : decode cX8_processes 1 = .ok (.getfield 24, 3) := by decide +kernel
theorem dX8_processes_4 : decode cX8_processes 4 = .ok (.getfield 125, 3) := by decide +kernel
theorem dX8_processes_7 : decode cX8_processes 7 = .ok (.ireturn, 1) := by decide +kernel
theorem dX8_done_0 : decode cX8_done 0 = .ok (.aload_n 0, 1) := by decide +kernel
theorem dX8_done_1 : decode cX8_done 1 = .ok (.getfield 24, 3) := by decide +kernel
theorem dX8_done_4 : decode cX8_done 4 = .ok (.getfield 192, 3) := by decide +kernel
theorem dX8_done_7 : decode cX8_done 7 = .ok (.ireturn, 1) := by decide +kernel
theorem dX8_stateOf_0 : decode cX8_stateOf 0 = .ok (.aload_n 0, 1) := by decide +kernel
theorem dX8_stateOf_1 : decode cX8_stateOf 1 = .ok (.iload_n 1, 1) := by decide +kernel
theorem dX8_stateOf_2 : decode cX8_stateOf 2 = .ok (.invokevirtual 151, 3) := by decide +kernel
theorem dX8_stateOf_5 : decode cX8_stateOf 5 = .ok (.getfield 155, 3) := by decide +kernel
theorem dX8_stateOf_8 : decode cX8_stateOf 8 = .ok (.ireturn, 1) := by decide +kernel
theorem dX8_placeOf_0 : decode cX8_placeOf 0 = .ok (.aload_n 0, 1) := by decide +kernel
theorem dX8_placeOf_1 : decode cX8_placeOf 1 = .ok (.iload_n 1, 1) := by decide +kernel
theorem dX8_placeOf_2 : decode cX8_placeOf 2 = .ok (.invokevirtual 151, 3) := by decide +kernel
theorem dX8_placeOf_5 : decode cX8_placeOf 5 = .ok (.getfield 195, 3) := by decide +kernel
theorem dX8_placeOf_8 : decode cX8_placeOf 8 = .ok (.ireturn, 1) := by decide +kernel
theorem dX8_rankOf_0 : decode cX8_rankOf 0 = .ok (.aload_n 0, 1) := by decide +kernel
theorem dX8_rankOf_1 : decode cX8_rankOf 1 = .ok (.iload_n 1, 1) := by decide +kernel
theorem dX8_rankOf_2 : decode cX8_rankOf 2 = .ok (.invokevirtual 151, 3) := by decide +kernel
theorem dX8_rankOf_5 : decode cX8_rankOf 5 = .ok (.getfield 198, 3) := by decide +kernel
theorem dX8_rankOf_8 : decode cX8_rankOf 8 = .ok (.ireturn, 1) := by decide +kernel
theorem dX8_restOf_0 : decode cX8_restOf 0 = .ok (.aload_n 0, 1) := by decide +kernel
theorem dX8_restOf_1 : decode cX8_restOf 1 = .ok (.iload_n 1, 1) := by decide +kernel
theorem dX8_restOf_2 : decode cX8_restOf 2 = .ok (.invokevirtual 151, 3) := by decide +kernel
theorem dX8_restOf_5 : decode cX8_restOf 5 = .ok (.getfield 164, 3) := by decide +kernel
theorem dX8_restOf_8 : decode cX8_restOf 8 = .ok (.ireturn, 1) := by decide +kernel
theorem dX8_markOf_0 : decode cX8_markOf 0 = .ok (.aload_n 0, 1) := by decide +kernel
theorem dX8_markOf_1 : decode cX8_markOf 1 = .ok (.iload_n 1, 1) := by decide +kernel
theorem dX8_markOf_2 : decode cX8_markOf 2 = .ok (.invokevirtual 151, 3) := by decide +kernel
theorem dX8_markOf_5 : decode cX8_markOf 5 = .ok (.getfield 201, 3) := by decide +kernel
theorem dX8_markOf_8 : decode cX8_markOf 8 = .ok (.ireturn, 1) := by decide +kernel
theorem dX8_eventOf_0 : decode cX8_eventOf 0 = .ok (.aload_n 0, 1) := by decide +kernel
theorem dX8_eventOf_1 : decode cX8_eventOf 1 = .ok (.iload_n 1, 1) := by decide +kernel
theorem dX8_eventOf_2 : decode cX8_eventOf 2 = .ok (.invokevirtual 151, 3) := by decide +kernel
theorem dX8_eventOf_5 : decode cX8_eventOf 5 = .ok (.getfield 189, 3) := by decide +kernel
theorem dX8_eventOf_8 : decode cX8_eventOf 8 = .ok (.ireturn, 1) := by decide +kernel
theorem dX8_holds_0 : decode cX8_holds 0 = .ok (.aload_n 0, 1) := by decide +kernel
theorem dX8_holds_1 : decode cX8_holds 1 = .ok (.iload_n 1, 1) := by decide +kernel
theorem dX8_holds_2 : decode cX8_holds 2 = .ok (.invokevirtual 151, 3) := by decide +kernel
theorem dX8_holds_5 : decode cX8_holds 5 = .ok (.astore_n 3, 1) := by decide +kernel
theorem dX8_holds_6 : decode cX8_holds 6 = .ok (.aload_n 0, 1) := by decide +kernel
theorem dX8_holds_7 : decode cX8_holds 7 = .ok (.iload_n 2, 1) := by decide +kernel
theorem dX8_holds_8 : decode cX8_holds 8 = .ok (.invokevirtual 204, 3) := by decide +kernel
theorem dX8_holds_11 : decode cX8_holds 11 = .ok (.astore 4, 2) := by decide +kernel
theorem dX8_holds_13 : decode cX8_holds 13 = .ok (.aload_n 3, 1) := by decide +kernel
theorem dX8_holds_14 : decode cX8_holds 14 = .ok (.getfield 208, 3) := by decide +kernel
theorem dX8_holds_17 : decode cX8_holds 17 = .ok (.aload 4, 2) := by decide +kernel
theorem dX8_holds_19 : decode cX8_holds 19 = .ok (.getfield 212, 3) := by decide +kernel
theorem dX8_holds_22 : decode cX8_holds 22 = .ok (.invokestatic 213, 3) := by decide +kernel
theorem dX8_holds_25 : decode cX8_holds 25 = .ok (.ireturn, 1) := by decide +kernel
theorem dX8_free_0 : decode cX8_free 0 = .ok (.aload_n 0, 1) := by decide +kernel
theorem dX8_free_1 : decode cX8_free 1 = .ok (.iload_n 1, 1) := by decide +kernel
theorem dX8_free_2 : decode cX8_free 2 = .ok (.invokevirtual 204, 3) := by decide +kernel
theorem dX8_free_5 : decode cX8_free 5 = .ok (.getfield 217, 3) := by decide +kernel
theorem dX8_free_8 : decode cX8_free 8 = .ok (.ireturn, 1) := by decide +kernel
theorem dX8_queued_0 : decode cX8_queued 0 = .ok (.aload_n 0, 1) := by decide +kernel
theorem dX8_queued_1 : decode cX8_queued 1 = .ok (.getfield 24, 3) := by decide +kernel
theorem dX8_queued_4 : decode cX8_queued 4 = .ok (.aload_n 0, 1) := by decide +kernel
theorem dX8_queued_5 : decode cX8_queued 5 = .ok (.iload_n 1, 1) := by decide +kernel
theorem dX8_queued_6 : decode cX8_queued 6 = .ok (.invokevirtual 204, 3) := by decide +kernel
theorem dX8_queued_9 : decode cX8_queued 9 = .ok (.getfield 212, 3) := by decide +kernel
theorem dX8_queued_12 : decode cX8_queued 12 = .ok (.invokevirtual 220, 3) := by decide +kernel
theorem dX8_queued_15 : decode cX8_queued 15 = .ok (.ireturn, 1) := by decide +kernel
theorem dX8_queuedAt_0 : decode cX8_queuedAt 0 = .ok (.aload_n 0, 1) := by decide +kernel
theorem dX8_queuedAt_1 : decode cX8_queuedAt 1 = .ok (.getfield 24, 3) := by decide +kernel
theorem dX8_queuedAt_4 : decode cX8_queuedAt 4 = .ok (.aload_n 0, 1) := by decide +kernel
theorem dX8_queuedAt_5 : decode cX8_queuedAt 5 = .ok (.iload_n 1, 1) := by decide +kernel
theorem dX8_queuedAt_6 : decode cX8_queuedAt 6 = .ok (.invokevirtual 204, 3) := by decide +kernel
theorem dX8_queuedAt_9 : decode cX8_queuedAt 9 = .ok (.getfield 212, 3) := by decide +kernel
theorem dX8_queuedAt_12 : decode cX8_queuedAt 12 = .ok (.iload_n 2, 1) := by decide +kernel
theorem dX8_queuedAt_13 : decode cX8_queuedAt 13 = .ok (.invokevirtual 223, 3) := by decide +kernel
theorem dX8_queuedAt_16 : decode cX8_queuedAt 16 = .ok (.astore_n 3, 1) := by decide +kernel
theorem dX8_queuedAt_17 : decode cX8_queuedAt 17 = .ok (.aload_n 3, 1) := by decide +kernel
theorem dX8_queuedAt_18 : decode cX8_queuedAt 18 = .ok (.ifnonnull 13, 3) := by decide +kernel
theorem dX8_queuedAt_21 : decode cX8_queuedAt 21 = .ok (.new 227, 3) := by decide +kernel
theorem dX8_queuedAt_24 : decode cX8_queuedAt 24 = .ok (.dup, 1) := by decide +kernel
theorem dX8_queuedAt_25 : decode cX8_queuedAt 25 = .ok (.ldc 229, 2) := by decide +kernel
theorem dX8_queuedAt_27 : decode cX8_queuedAt 27 = .ok (.invokespecial 231, 3) := by decide +kernel
theorem dX8_queuedAt_30 : decode cX8_queuedAt 30 = .ok (.athrow, 1) := by decide +kernel
theorem dX8_queuedAt_31 : decode cX8_queuedAt 31 = .ok (.aload_n 3, 1) := by decide +kernel
theorem dX8_queuedAt_32 : decode cX8_queuedAt 32 = .ok (.getfield 140, 3) := by decide +kernel
theorem dX8_queuedAt_35 : decode cX8_queuedAt 35 = .ok (.ireturn, 1) := by decide +kernel
theorem dX8_busy_0 : decode cX8_busy 0 = .ok (.aload_n 0, 1) := by decide +kernel
theorem dX8_busy_1 : decode cX8_busy 1 = .ok (.iload_n 1, 1) := by decide +kernel
theorem dX8_busy_2 : decode cX8_busy 2 = .ok (.invokevirtual 204, 3) := by decide +kernel
theorem dX8_busy_5 : decode cX8_busy 5 = .ok (.getfield 232, 3) := by decide +kernel
theorem dX8_busy_8 : decode cX8_busy 8 = .ok (.ireturn, 1) := by decide +kernel
theorem dX8_queueing_0 : decode cX8_queueing 0 = .ok (.aload_n 0, 1) := by decide +kernel
theorem dX8_queueing_1 : decode cX8_queueing 1 = .ok (.iload_n 1, 1) := by decide +kernel
theorem dX8_queueing_2 : decode cX8_queueing 2 = .ok (.invokevirtual 204, 3) := by decide +kernel
theorem dX8_queueing_5 : decode cX8_queueing 5 = .ok (.getfield 235, 3) := by decide +kernel
theorem dX8_queueing_8 : decode cX8_queueing 8 = .ok (.ireturn, 1) := by decide +kernel
theorem dX8_longest_0 : decode cX8_longest 0 = .ok (.aload_n 0, 1) := by decide +kernel
theorem dX8_longest_1 : decode cX8_longest 1 = .ok (.iload_n 1, 1) := by decide +kernel
theorem dX8_longest_2 : decode cX8_longest 2 = .ok (.invokevirtual 204, 3) := by decide +kernel
theorem dX8_longest_5 : decode cX8_longest 5 = .ok (.getfield 238, 3) := by decide +kernel
theorem dX8_longest_8 : decode cX8_longest 8 = .ok (.ireturn, 1) := by decide +kernel
theorem dX8_level_0 : decode cX8_level 0 = .ok (.aload_n 0, 1) := by decide +kernel
theorem dX8_level_1 : decode cX8_level 1 = .ok (.iload_n 1, 1) := by decide +kernel
theorem dX8_level_2 : decode cX8_level 2 = .ok (.invokevirtual 241, 3) := by decide +kernel
theorem dX8_level_5 : decode cX8_level 5 = .ok (.getfield 245, 3) := by decide +kernel
theorem dX8_level_8 : decode cX8_level 8 = .ok (.ireturn, 1) := by decide +kernel
theorem dX8_blocked_0 : decode cX8_blocked 0 = .ok (.aload_n 0, 1) := by decide +kernel
theorem dX8_blocked_1 : decode cX8_blocked 1 = .ok (.getfield 24, 3) := by decide +kernel
theorem dX8_blocked_4 : decode cX8_blocked 4 = .ok (.aload_n 0, 1) := by decide +kernel
theorem dX8_blocked_5 : decode cX8_blocked 5 = .ok (.iload_n 1, 1) := by decide +kernel
theorem dX8_blocked_6 : decode cX8_blocked 6 = .ok (.invokevirtual 241, 3) := by decide +kernel
theorem dX8_blocked_9 : decode cX8_blocked 9 = .ok (.iload_n 2, 1) := by decide +kernel
theorem dX8_blocked_10 : decode cX8_blocked 10 = .ok (.invokevirtual 248, 3) := by decide +kernel
theorem dX8_blocked_13 : decode cX8_blocked 13 = .ok (.invokevirtual 220, 3) := by decide +kernel
theorem dX8_blocked_16 : decode cX8_blocked 16 = .ok (.ireturn, 1) := by decide +kernel
theorem dX8_area_0 : decode cX8_area 0 = .ok (.aload_n 0, 1) := by decide +kernel
theorem dX8_area_1 : decode cX8_area 1 = .ok (.iload_n 1, 1) := by decide +kernel
theorem dX8_area_2 : decode cX8_area 2 = .ok (.invokevirtual 241, 3) := by decide +kernel
theorem dX8_area_5 : decode cX8_area 5 = .ok (.getfield 252, 3) := by decide +kernel
theorem dX8_area_8 : decode cX8_area 8 = .ok (.ireturn, 1) := by decide +kernel
theorem dX8_awaiting_0 : decode cX8_awaiting 0 = .ok (.iload_n 1, 1) := by decide +kernel
theorem dX8_awaiting_1 : decode cX8_awaiting 1 = .ok (.invokestatic 255, 3) := by decide +kernel
theorem dX8_awaiting_4 : decode cX8_awaiting 4 = .ok (.ifCond .ne 14, 3) := by decide +kernel
theorem dX8_awaiting_7 : decode cX8_awaiting 7 = .ok (.new 227, 3) := by decide +kernel
theorem dX8_awaiting_10 : decode cX8_awaiting 10 = .ok (.dup, 1) := by decide +kernel
theorem dX8_awaiting_11 : decode cX8_awaiting 11 = .ok (.ldc_w 259, 3) := by decide +kernel
theorem dX8_awaiting_14 : decode cX8_awaiting 14 = .ok (.invokespecial 231, 3) := by decide +kernel
theorem dX8_awaiting_17 : decode cX8_awaiting 17 = .ok (.athrow, 1) := by decide +kernel
theorem dX8_awaiting_18 : decode cX8_awaiting 18 = .ok (.aload_n 0, 1) := by decide +kernel
theorem dX8_awaiting_19 : decode cX8_awaiting 19 = .ok (.getfield 24, 3) := by decide +kernel
theorem dX8_awaiting_22 : decode cX8_awaiting 22 = .ok (.bipush 14, 2) := by decide +kernel
theorem dX8_awaiting_24 : decode cX8_awaiting 24 = .ok (.iload_n 1, 1) := by decide +kernel
theorem dX8_awaiting_25 : decode cX8_awaiting 25 = .ok (.iadd, 1) := by decide +kernel
theorem dX8_awaiting_26 : decode cX8_awaiting 26 = .ok (.invokevirtual 220, 3) := by decide +kernel
theorem dX8_awaiting_29 : decode cX8_awaiting 29 = .ok (.ireturn, 1) := by decide +kernel
theorem dX8_tallied_0 : decode cX8_tallied 0 = .ok (.aload_n 0, 1) := by decide +kernel
theorem dX8_tallied_1 : decode cX8_tallied 1 = .ok (.iload_n 1, 1) := by decide +kernel
theorem dX8_tallied_2 : decode cX8_tallied 2 = .ok (.invokevirtual 261, 3) := by decide +kernel
theorem dX8_tallied_5 : decode cX8_tallied 5 = .ok (.getfield 265, 3) := by decide +kernel
theorem dX8_tallied_8 : decode cX8_tallied 8 = .ok (.ireturn, 1) := by decide +kernel
theorem dX8_ofTally_0 : decode cX8_ofTally 0 = .ok (.aload_n 0, 1) := by decide +kernel
theorem dX8_ofTally_1 : decode cX8_ofTally 1 = .ok (.iload_n 1, 1) := by decide +kernel
theorem dX8_ofTally_2 : decode cX8_ofTally 2 = .ok (.invokevirtual 261, 3) := by decide +kernel
theorem dX8_ofTally_5 : decode cX8_ofTally 5 = .ok (.astore_n 3, 1) := by decide +kernel
theorem dX8_ofTally_6 : decode cX8_ofTally 6 = .ok (.iload_n 2, 1) := by decide +kernel
theorem dX8_ofTally_7 : decode cX8_ofTally 7 = .ok (.tableswitch 49 0 3 #[29, 34, 39, 44], 29) := by decide +kernel
theorem dX8_ofTally_36 : decode cX8_ofTally 36 = .ok (.aload_n 3, 1) := by decide +kernel
theorem dX8_ofTally_37 : decode cX8_ofTally 37 = .ok (.getfield 268, 3) := by decide +kernel
theorem dX8_ofTally_40 : decode cX8_ofTally 40 = .ok (.ireturn, 1) := by decide +kernel
theorem dX8_ofTally_41 : decode cX8_ofTally 41 = .ok (.aload_n 3, 1) := by decide +kernel
theorem dX8_ofTally_42 : decode cX8_ofTally 42 = .ok (.getfield 271, 3) := by decide +kernel
theorem dX8_ofTally_45 : decode cX8_ofTally 45 = .ok (.ireturn, 1) := by decide +kernel
theorem dX8_ofTally_46 : decode cX8_ofTally 46 = .ok (.aload_n 3, 1) := by decide +kernel
theorem dX8_ofTally_47 : decode cX8_ofTally 47 = .ok (.getfield 274, 3) := by decide +kernel
theorem dX8_ofTally_50 : decode cX8_ofTally 50 = .ok (.ireturn, 1) := by decide +kernel
theorem dX8_ofTally_51 : decode cX8_ofTally 51 = .ok (.aload_n 3, 1) := by decide +kernel
theorem dX8_ofTally_52 : decode cX8_ofTally 52 = .ok (.getfield 277, 3) := by decide +kernel
theorem dX8_ofTally_55 : decode cX8_ofTally 55 = .ok (.ireturn, 1) := by decide +kernel
theorem dX8_ofTally_56 : decode cX8_ofTally 56 = .ok (.new 35, 3) := by decide +kernel
theorem dX8_ofTally_59 : decode cX8_ofTally 59 = .ok (.dup, 1) := by decide +kernel
theorem dX8_ofTally_60 : decode cX8_ofTally 60 = .ok (.ldc_w 280, 3) := by decide +kernel
theorem dX8_ofTally_63 : decode cX8_ofTally 63 = .ok (.invokespecial 39, 3) := by decide +kernel
theorem dX8_ofTally_66 : decode cX8_ofTally 66 = .ok (.athrow, 1) := by decide +kernel
theorem dX8_batches_0 : decode cX8_batches 0 = .ok (.aload_n 0, 1) := by decide +kernel
theorem dX8_batches_1 : decode cX8_batches 1 = .ok (.iload_n 1, 1) := by decide +kernel
theorem dX8_batches_2 : decode cX8_batches 2 = .ok (.invokevirtual 261, 3) := by decide +kernel
theorem dX8_batches_5 : decode cX8_batches 5 = .ok (.getfield 282, 3) := by decide +kernel
theorem dX8_batches_8 : decode cX8_batches 8 = .ok (.ireturn, 1) := by decide +kernel
theorem dX8_sumOf_0 : decode cX8_sumOf 0 = .ok (.aload_n 0, 1) := by decide +kernel
theorem dX8_sumOf_1 : decode cX8_sumOf 1 = .ok (.iload_n 1, 1) := by decide +kernel
theorem dX8_sumOf_2 : decode cX8_sumOf 2 = .ok (.invokevirtual 261, 3) := by decide +kernel
theorem dX8_sumOf_5 : decode cX8_sumOf 5 = .ok (.astore_n 3, 1) := by decide +kernel
theorem dX8_sumOf_6 : decode cX8_sumOf 6 = .ok (.iload_n 2, 1) := by decide +kernel
theorem dX8_sumOf_7 : decode cX8_sumOf 7 = .ok (.ifCond .lt 11, 3) := by decide +kernel
theorem dX8_sumOf_10 : decode cX8_sumOf 10 = .ok (.iload_n 2, 1) := by decide +kernel
theorem dX8_sumOf_11 : decode cX8_sumOf 11 = .ok (.aload_n 3, 1) := by decide +kernel
theorem dX8_sumOf_12 : decode cX8_sumOf 12 = .ok (.getfield 282, 3) := by decide +kernel
theorem dX8_sumOf_15 : decode cX8_sumOf 15 = .ok (.if_icmp .lt 14, 3) := by decide +kernel
theorem dX8_sumOf_18 : decode cX8_sumOf 18 = .ok (.new 227, 3) := by decide +kernel
theorem dX8_sumOf_21 : decode cX8_sumOf 21 = .ok (.dup, 1) := by decide +kernel
theorem dX8_sumOf_22 : decode cX8_sumOf 22 = .ok (.ldc_w 285, 3) := by decide +kernel
theorem dX8_sumOf_25 : decode cX8_sumOf 25 = .ok (.invokespecial 231, 3) := by decide +kernel
theorem dX8_sumOf_28 : decode cX8_sumOf 28 = .ok (.athrow, 1) := by decide +kernel
theorem dX8_sumOf_29 : decode cX8_sumOf 29 = .ok (.aload_n 3, 1) := by decide +kernel
theorem dX8_sumOf_30 : decode cX8_sumOf 30 = .ok (.iload_n 2, 1) := by decide +kernel
theorem dX8_sumOf_31 : decode cX8_sumOf 31 = .ok (.invokevirtual 287, 3) := by decide +kernel
theorem dX8_sumOf_34 : decode cX8_sumOf 34 = .ok (.ireturn, 1) := by decide +kernel
theorem dX8_spread_0 : decode cX8_spread 0 = .ok (.aload_n 0, 1) := by decide +kernel
theorem dX8_spread_1 : decode cX8_spread 1 = .ok (.iload_n 1, 1) := by decide +kernel
theorem dX8_spread_2 : decode cX8_spread 2 = .ok (.invokevirtual 261, 3) := by decide +kernel
theorem dX8_spread_5 : decode cX8_spread 5 = .ok (.invokevirtual 290, 3) := by decide +kernel
theorem dX8_spread_8 : decode cX8_spread 8 = .ok (.dreturn, 1) := by decide +kernel
theorem dX8_endOf_0 : decode cX8_endOf 0 = .ok (.aload_n 0, 1) := by decide +kernel
theorem dX8_endOf_1 : decode cX8_endOf 1 = .ok (.iload_n 1, 1) := by decide +kernel
theorem dX8_endOf_2 : decode cX8_endOf 2 = .ok (.invokevirtual 151, 3) := by decide +kernel
theorem dX8_endOf_5 : decode cX8_endOf 5 = .ok (.astore_n 3, 1) := by decide +kernel
theorem dX8_endOf_6 : decode cX8_endOf 6 = .ok (.iload_n 2, 1) := by decide +kernel
theorem dX8_endOf_7 : decode cX8_endOf 7 = .ok (.iconst 1, 1) := by decide +kernel
theorem dX8_endOf_8 : decode cX8_endOf 8 = .ok (.bipush 100, 2) := by decide +kernel
theorem dX8_endOf_10 : decode cX8_endOf 10 = .ok (.invokestatic 31, 3) := by decide +kernel
theorem dX8_endOf_13 : decode cX8_endOf 13 = .ok (.ifCond .ne 14, 3) := by decide +kernel
theorem dX8_endOf_16 : decode cX8_endOf 16 = .ok (.new 35, 3) := by decide +kernel
theorem dX8_endOf_19 : decode cX8_endOf 19 = .ok (.dup, 1) := by decide +kernel
theorem dX8_endOf_20 : decode cX8_endOf 20 = .ok (.ldc_w 294, 3) := by decide +kernel
theorem dX8_endOf_23 : decode cX8_endOf 23 = .ok (.invokespecial 39, 3) := by decide +kernel
theorem dX8_endOf_26 : decode cX8_endOf 26 = .ok (.athrow, 1) := by decide +kernel
theorem dX8_endOf_27 : decode cX8_endOf 27 = .ok (.aload_n 3, 1) := by decide +kernel
theorem dX8_endOf_28 : decode cX8_endOf 28 = .ok (.invokevirtual 167, 3) := by decide +kernel
theorem dX8_endOf_31 : decode cX8_endOf 31 = .ok (.ifCond .eq 11, 3) := by decide +kernel
theorem dX8_endOf_34 : decode cX8_endOf 34 = .ok (.aload_n 0, 1) := by decide +kernel
theorem dX8_endOf_35 : decode cX8_endOf 35 = .ok (.getfield 24, 3) := by decide +kernel
theorem dX8_endOf_38 : decode cX8_endOf 38 = .ok (.getfield 180, 3) := by decide +kernel
theorem dX8_endOf_41 : decode cX8_endOf 41 = .ok (.ireturn, 1) := by decide +kernel
theorem dX8_endOf_42 : decode cX8_endOf 42 = .ok (.aload_n 0, 1) := by decide +kernel
theorem dX8_endOf_43 : decode cX8_endOf 43 = .ok (.getfield 28, 3) := by decide +kernel
theorem dX8_endOf_46 : decode cX8_endOf 46 = .ok (.aload_n 0, 1) := by decide +kernel
theorem dX8_endOf_47 : decode cX8_endOf 47 = .ok (.getfield 24, 3) := by decide +kernel
theorem dX8_endOf_50 : decode cX8_endOf 50 = .ok (.invokevirtual 296, 3) := by decide +kernel
theorem dX8_endOf_53 : decode cX8_endOf 53 = .ok (.aload_n 0, 1) := by decide +kernel
theorem dX8_endOf_54 : decode cX8_endOf 54 = .ok (.getfield 28, 3) := by decide +kernel
theorem dX8_endOf_57 : decode cX8_endOf 57 = .ok (.iload_n 1, 1) := by decide +kernel
theorem dX8_endOf_58 : decode cX8_endOf 58 = .ok (.iload_n 2, 1) := by decide +kernel
theorem dX8_endOf_59 : decode cX8_endOf 59 = .ok (.invokevirtual 300, 3) := by decide +kernel
theorem dX8_endOf_62 : decode cX8_endOf 62 = .ok (.ireturn, 1) := by decide +kernel
theorem dX8_wouldBeBusy_0 : decode cX8_wouldBeBusy 0 = .ok (.aload_n 0, 1) := by decide +kernel
theorem dX8_wouldBeBusy_1 : decode cX8_wouldBeBusy 1 = .ok (.iload_n 1, 1) := by decide +kernel
theorem dX8_wouldBeBusy_2 : decode cX8_wouldBeBusy 2 = .ok (.invokevirtual 204, 3) := by decide +kernel
theorem dX8_wouldBeBusy_5 : decode cX8_wouldBeBusy 5 = .ok (.pop, 1) := by decide +kernel
theorem dX8_wouldBeBusy_6 : decode cX8_wouldBeBusy 6 = .ok (.iload_n 2, 1) := by decide +kernel
theorem dX8_wouldBeBusy_7 : decode cX8_wouldBeBusy 7 = .ok (.iconst 0, 1) := by decide +kernel
theorem dX8_wouldBeBusy_8 : decode cX8_wouldBeBusy 8 = .ok (.sipush 999, 3) := by decide +kernel
theorem dX8_wouldBeBusy_11 : decode cX8_wouldBeBusy 11 = .ok (.invokestatic 31, 3) := by decide +kernel
theorem dX8_wouldBeBusy_14 : decode cX8_wouldBeBusy 14 = .ok (.ifCond .ne 13, 3) := by decide +kernel
theorem dX8_wouldBeBusy_17 : decode cX8_wouldBeBusy 17 = .ok (.new 35, 3) := by decide +kernel
theorem dX8_wouldBeBusy_20 : decode cX8_wouldBeBusy 20 = .ok (.dup, 1) := by decide +kernel
theorem dX8_wouldBeBusy_21 : decode cX8_wouldBeBusy 21 = .ok (.ldc 145, 2) := by decide +kernel
theorem dX8_wouldBeBusy_23 : decode cX8_wouldBeBusy 23 = .ok (.invokespecial 39, 3) := by decide +kernel
theorem dX8_wouldBeBusy_26 : decode cX8_wouldBeBusy 26 = .ok (.athrow, 1) := by decide +kernel
theorem dX8_wouldBeBusy_27 : decode cX8_wouldBeBusy 27 = .ok (.aload_n 0, 1) := by decide +kernel
theorem dX8_wouldBeBusy_28 : decode cX8_wouldBeBusy 28 = .ok (.getfield 28, 3) := by decide +kernel
theorem dX8_wouldBeBusy_31 : decode cX8_wouldBeBusy 31 = .ok (.aload_n 0, 1) := by decide +kernel
theorem dX8_wouldBeBusy_32 : decode cX8_wouldBeBusy 32 = .ok (.getfield 24, 3) := by decide +kernel
theorem dX8_wouldBeBusy_35 : decode cX8_wouldBeBusy 35 = .ok (.invokevirtual 296, 3) := by decide +kernel
theorem dX8_wouldBeBusy_38 : decode cX8_wouldBeBusy 38 = .ok (.aload_n 0, 1) := by decide +kernel
theorem dX8_wouldBeBusy_39 : decode cX8_wouldBeBusy 39 = .ok (.getfield 28, 3) := by decide +kernel
theorem dX8_wouldBeBusy_42 : decode cX8_wouldBeBusy 42 = .ok (.iload_n 2, 1) := by decide +kernel
theorem dX8_wouldBeBusy_43 : decode cX8_wouldBeBusy 43 = .ok (.invokevirtual 147, 3) := by decide +kernel
theorem dX8_wouldBeBusy_46 : decode cX8_wouldBeBusy 46 = .ok (.pop, 1) := by decide +kernel
theorem dX8_wouldBeBusy_47 : decode cX8_wouldBeBusy 47 = .ok (.aload_n 0, 1) := by decide +kernel
theorem dX8_wouldBeBusy_48 : decode cX8_wouldBeBusy 48 = .ok (.getfield 28, 3) := by decide +kernel
theorem dX8_wouldBeBusy_51 : decode cX8_wouldBeBusy 51 = .ok (.iload_n 1, 1) := by decide +kernel
theorem dX8_wouldBeBusy_52 : decode cX8_wouldBeBusy 52 = .ok (.invokevirtual 304, 3) := by decide +kernel
theorem dX8_wouldBeBusy_55 : decode cX8_wouldBeBusy 55 = .ok (.astore_n 3, 1) := by decide +kernel
theorem dX8_wouldBeBusy_56 : decode cX8_wouldBeBusy 56 = .ok (.aload_n 3, 1) := by decide +kernel
theorem dX8_wouldBeBusy_57 : decode cX8_wouldBeBusy 57 = .ok (.ifnonnull 7, 3) := by decide +kernel
theorem dX8_wouldBeBusy_60 : decode cX8_wouldBeBusy 60 = .ok (.iconst 0, 1) := by decide +kernel
theorem dX8_wouldBeBusy_61 : decode cX8_wouldBeBusy 61 = .ok (.goto 7, 3) := by decide +kernel
theorem dX8_wouldBeBusy_64 : decode cX8_wouldBeBusy 64 = .ok (.aload_n 3, 1) := by decide +kernel
theorem dX8_wouldBeBusy_65 : decode cX8_wouldBeBusy 65 = .ok (.getfield 232, 3) := by decide +kernel
theorem dX8_wouldBeBusy_68 : decode cX8_wouldBeBusy 68 = .ok (.ireturn, 1) := by decide +kernel
theorem dX8_digest_0 : decode cX8_digest 0 = .ok (.ldc2_w 307, 3) := by decide +kernel
theorem dX8_digest_3 : decode cX8_digest 3 = .ok (.lstore_n 1, 1) := by decide +kernel
theorem dX8_digest_4 : decode cX8_digest 4 = .ok (.lload_n 1, 1) := by decide +kernel
theorem dX8_digest_5 : decode cX8_digest 5 = .ok (.aload_n 0, 1) := by decide +kernel
theorem dX8_digest_6 : decode cX8_digest 6 = .ok (.invokevirtual 309, 3) := by decide +kernel
theorem dX8_digest_9 : decode cX8_digest 9 = .ok (.invokestatic 311, 3) := by decide +kernel
theorem dX8_digest_12 : decode cX8_digest 12 = .ok (.lstore_n 1, 1) := by decide +kernel
theorem dX8_digest_13 : decode cX8_digest 13 = .ok (.lload_n 1, 1) := by decide +kernel
theorem dX8_digest_14 : decode cX8_digest 14 = .ok (.aload_n 0, 1) := by decide +kernel
theorem dX8_digest_15 : decode cX8_digest 15 = .ok (.invokevirtual 315, 3) := by decide +kernel
theorem dX8_digest_18 : decode cX8_digest 18 = .ok (.invokestatic 311, 3) := by decide +kernel
theorem dX8_digest_21 : decode cX8_digest 21 = .ok (.lstore_n 1, 1) := by decide +kernel
theorem dX8_digest_22 : decode cX8_digest 22 = .ok (.lload_n 1, 1) := by decide +kernel
theorem dX8_digest_23 : decode cX8_digest 23 = .ok (.aload_n 0, 1) := by decide +kernel
theorem dX8_digest_24 : decode cX8_digest 24 = .ok (.invokevirtual 317, 3) := by decide +kernel
theorem dX8_digest_27 : decode cX8_digest 27 = .ok (.invokestatic 311, 3) := by decide +kernel
theorem dX8_digest_30 : decode cX8_digest 30 = .ok (.lstore_n 1, 1) := by decide +kernel
theorem dX8_digest_31 : decode cX8_digest 31 = .ok (.lload_n 1, 1) := by decide +kernel
theorem dX8_digest_32 : decode cX8_digest 32 = .ok (.aload_n 0, 1) := by decide +kernel
theorem dX8_digest_33 : decode cX8_digest 33 = .ok (.invokevirtual 320, 3) := by decide +kernel
theorem dX8_digest_36 : decode cX8_digest 36 = .ok (.invokestatic 311, 3) := by decide +kernel
theorem dX8_digest_39 : decode cX8_digest 39 = .ok (.lstore_n 1, 1) := by decide +kernel
theorem dX8_digest_40 : decode cX8_digest 40 = .ok (.lload_n 1, 1) := by decide +kernel
theorem dX8_digest_41 : decode cX8_digest 41 = .ok (.aload_n 0, 1) := by decide +kernel
theorem dX8_digest_42 : decode cX8_digest 42 = .ok (.invokevirtual 323, 3) := by decide +kernel
theorem dX8_digest_45 : decode cX8_digest 45 = .ok (.invokestatic 311, 3) := by decide +kernel
theorem dX8_digest_48 : decode cX8_digest 48 = .ok (.lstore_n 1, 1) := by decide +kernel
theorem dX8_digest_49 : decode cX8_digest 49 = .ok (.lload_n 1, 1) := by decide +kernel
theorem dX8_digest_50 : decode cX8_digest 50 = .ok (.aload_n 0, 1) := by decide +kernel
theorem dX8_digest_51 : decode cX8_digest 51 = .ok (.invokevirtual 326, 3) := by decide +kernel
theorem dX8_digest_54 : decode cX8_digest 54 = .ok (.invokestatic 311, 3) := by decide +kernel
theorem dX8_digest_57 : decode cX8_digest 57 = .ok (.lstore_n 1, 1) := by decide +kernel
theorem dX8_digest_58 : decode cX8_digest 58 = .ok (.aload_n 0, 1) := by decide +kernel
theorem dX8_digest_59 : decode cX8_digest 59 = .ok (.lload_n 1, 1) := by decide +kernel
theorem dX8_digest_60 : decode cX8_digest 60 = .ok (.invokevirtual 328, 3) := by decide +kernel
theorem dX8_digest_63 : decode cX8_digest 63 = .ok (.lstore_n 1, 1) := by decide +kernel
theorem dX8_digest_64 : decode cX8_digest 64 = .ok (.aload_n 0, 1) := by decide +kernel
theorem dX8_digest_65 : decode cX8_digest 65 = .ok (.lload_n 1, 1) := by decide +kernel
theorem dX8_digest_66 : decode cX8_digest 66 = .ok (.invokevirtual 332, 3) := by decide +kernel
theorem dX8_digest_69 : decode cX8_digest 69 = .ok (.lstore_n 1, 1) := by decide +kernel
theorem dX8_digest_70 : decode cX8_digest 70 = .ok (.aload_n 0, 1) := by decide +kernel
theorem dX8_digest_71 : decode cX8_digest 71 = .ok (.lload_n 1, 1) := by decide +kernel
theorem dX8_digest_72 : decode cX8_digest 72 = .ok (.invokevirtual 335, 3) := by decide +kernel
theorem dX8_digest_75 : decode cX8_digest 75 = .ok (.lstore_n 1, 1) := by decide +kernel
theorem dX8_digest_76 : decode cX8_digest 76 = .ok (.iconst 0, 1) := by decide +kernel
theorem dX8_digest_77 : decode cX8_digest 77 = .ok (.istore_n 3, 1) := by decide +kernel
theorem dX8_digest_78 : decode cX8_digest 78 = .ok (.iload_n 3, 1) := by decide +kernel
theorem dX8_digest_79 : decode cX8_digest 79 = .ok (.iconst 4, 1) := by decide +kernel
theorem dX8_digest_80 : decode cX8_digest 80 = .ok (.if_icmp .ge 19, 3) := by decide +kernel
theorem dX8_digest_83 : decode cX8_digest 83 = .ok (.lload_n 1, 1) := by decide +kernel
theorem dX8_digest_84 : decode cX8_digest 84 = .ok (.aload_n 0, 1) := by decide +kernel
theorem dX8_digest_85 : decode cX8_digest 85 = .ok (.iload_n 3, 1) := by decide +kernel
theorem dX8_digest_86 : decode cX8_digest 86 = .ok (.invokevirtual 338, 3) := by decide +kernel
theorem dX8_digest_89 : decode cX8_digest 89 = .ok (.invokestatic 311, 3) := by decide +kernel
theorem dX8_digest_92 : decode cX8_digest 92 = .ok (.lstore_n 1, 1) := by decide +kernel
theorem dX8_digest_93 : decode cX8_digest 93 = .ok (.iinc 3 1, 3) := by decide +kernel
theorem dX8_digest_96 : decode cX8_digest 96 = .ok (.goto (-18), 3) := by decide +kernel
theorem dX8_digest_99 : decode cX8_digest 99 = .ok (.aload_n 0, 1) := by decide +kernel
theorem dX8_digest_100 : decode cX8_digest 100 = .ok (.lload_n 1, 1) := by decide +kernel
theorem dX8_digest_101 : decode cX8_digest 101 = .ok (.invokevirtual 341, 3) := by decide +kernel
theorem dX8_digest_104 : decode cX8_digest 104 = .ok (.lreturn, 1) := by decide +kernel
theorem dX8_mix_0 : decode cX8_mix 0 = .ok (.lload_n 0, 1) := by decide +kernel
theorem dX8_mix_1 : decode cX8_mix 1 = .ok (.ldc2_w 344, 3) := by decide +kernel
theorem dX8_mix_4 : decode cX8_mix 4 = .ok (.lmul, 1) := by decide +kernel
theorem dX8_mix_5 : decode cX8_mix 5 = .ok (.iload_n 2, 1) := by decide +kernel
theorem dX8_mix_6 : decode cX8_mix 6 = .ok (.i2l, 1) := by decide +kernel
theorem dX8_mix_7 : decode cX8_mix 7 = .ok (.ladd, 1) := by decide +kernel
theorem dX8_mix_8 : decode cX8_mix 8 = .ok (.lreturn, 1) := by decide +kernel
theorem dX8_mixProcesses_0 : decode cX8_mixProcesses 0 = .ok (.iconst 0, 1) := by decide +kernel
theorem dX8_mixProcesses_1 : decode cX8_mixProcesses 1 = .ok (.istore_n 3, 1) := by decide +kernel
theorem dX8_mixProcesses_2 : decode cX8_mixProcesses 2 = .ok (.iload_n 3, 1) := by decide +kernel
theorem dX8_mixProcesses_3 : decode cX8_mixProcesses 3 = .ok (.aload_n 0, 1) := by decide +kernel
theorem dX8_mixProcesses_4 : decode cX8_mixProcesses 4 = .ok (.getfield 24, 3) := by decide +kernel
theorem dX8_mixProcesses_7 : decode cX8_mixProcesses 7 = .ok (.getfield 125, 3) := by decide +kernel
theorem dX8_mixProcesses_10 : decode cX8_mixProcesses 10 = .ok (.if_icmp .ge 105, 3) := by decide +kernel
theorem dX8_mixProcesses_13 : decode cX8_mixProcesses 13 = .ok (.lload_n 1, 1) := by decide +kernel
theorem dX8_mixProcesses_14 : decode cX8_mixProcesses 14 = .ok (.aload_n 0, 1) := by decide +kernel
theorem dX8_mixProcesses_15 : decode cX8_mixProcesses 15 = .ok (.iload_n 3, 1) := by decide +kernel
theorem dX8_mixProcesses_16 : decode cX8_mixProcesses 16 = .ok (.invokevirtual 346, 3) := by decide +kernel
theorem dX8_mixProcesses_19 : decode cX8_mixProcesses 19 = .ok (.invokestatic 311, 3) := by decide +kernel
theorem dX8_mixProcesses_22 : decode cX8_mixProcesses 22 = .ok (.lstore_n 1, 1) := by decide +kernel
theorem dX8_mixProcesses_23 : decode cX8_mixProcesses 23 = .ok (.lload_n 1, 1) := by decide +kernel
theorem dX8_mixProcesses_24 : decode cX8_mixProcesses 24 = .ok (.aload_n 0, 1) := by decide +kernel
theorem dX8_mixProcesses_25 : decode cX8_mixProcesses 25 = .ok (.iload_n 3, 1) := by decide +kernel
theorem dX8_mixProcesses_26 : decode cX8_mixProcesses 26 = .ok (.invokevirtual 349, 3) := by decide +kernel
theorem dX8_mixProcesses_29 : decode cX8_mixProcesses 29 = .ok (.invokestatic 311, 3) := by decide +kernel
theorem dX8_mixProcesses_32 : decode cX8_mixProcesses 32 = .ok (.lstore_n 1, 1) := by decide +kernel
theorem dX8_mixProcesses_33 : decode cX8_mixProcesses 33 = .ok (.lload_n 1, 1) := by decide +kernel
theorem dX8_mixProcesses_34 : decode cX8_mixProcesses 34 = .ok (.aload_n 0, 1) := by decide +kernel
theorem dX8_mixProcesses_35 : decode cX8_mixProcesses 35 = .ok (.iload_n 3, 1) := by decide +kernel
theorem dX8_mixProcesses_36 : decode cX8_mixProcesses 36 = .ok (.invokevirtual 352, 3) := by decide +kernel
theorem dX8_mixProcesses_39 : decode cX8_mixProcesses 39 = .ok (.invokestatic 311, 3) := by decide +kernel
theorem dX8_mixProcesses_42 : decode cX8_mixProcesses 42 = .ok (.lstore_n 1, 1) := by decide +kernel
theorem dX8_mixProcesses_43 : decode cX8_mixProcesses 43 = .ok (.lload_n 1, 1) := by decide +kernel
theorem dX8_mixProcesses_44 : decode cX8_mixProcesses 44 = .ok (.aload_n 0, 1) := by decide +kernel
theorem dX8_mixProcesses_45 : decode cX8_mixProcesses 45 = .ok (.iload_n 3, 1) := by decide +kernel
theorem dX8_mixProcesses_46 : decode cX8_mixProcesses 46 = .ok (.invokevirtual 355, 3) := by decide +kernel
theorem dX8_mixProcesses_49 : decode cX8_mixProcesses 49 = .ok (.invokestatic 311, 3) := by decide +kernel
theorem dX8_mixProcesses_52 : decode cX8_mixProcesses 52 = .ok (.lstore_n 1, 1) := by decide +kernel
theorem dX8_mixProcesses_53 : decode cX8_mixProcesses 53 = .ok (.lload_n 1, 1) := by decide +kernel
theorem dX8_mixProcesses_54 : decode cX8_mixProcesses 54 = .ok (.aload_n 0, 1) := by decide +kernel
theorem dX8_mixProcesses_55 : decode cX8_mixProcesses 55 = .ok (.iload_n 3, 1) := by decide +kernel
theorem dX8_mixProcesses_56 : decode cX8_mixProcesses 56 = .ok (.invokevirtual 358, 3) := by decide +kernel
theorem dX8_mixProcesses_59 : decode cX8_mixProcesses 59 = .ok (.invokestatic 311, 3) := by decide +kernel
theorem dX8_mixProcesses_62 : decode cX8_mixProcesses 62 = .ok (.lstore_n 1, 1) := by decide +kernel
theorem dX8_mixProcesses_63 : decode cX8_mixProcesses 63 = .ok (.lload_n 1, 1) := by decide +kernel
theorem dX8_mixProcesses_64 : decode cX8_mixProcesses 64 = .ok (.aload_n 0, 1) := by decide +kernel
theorem dX8_mixProcesses_65 : decode cX8_mixProcesses 65 = .ok (.iload_n 3, 1) := by decide +kernel
theorem dX8_mixProcesses_66 : decode cX8_mixProcesses 66 = .ok (.invokevirtual 361, 3) := by decide +kernel
theorem dX8_mixProcesses_69 : decode cX8_mixProcesses 69 = .ok (.invokestatic 311, 3) := by decide +kernel
theorem dX8_mixProcesses_72 : decode cX8_mixProcesses 72 = .ok (.lstore_n 1, 1) := by decide +kernel
theorem dX8_mixProcesses_73 : decode cX8_mixProcesses 73 = .ok (.iconst 0, 1) := by decide +kernel
theorem dX8_mixProcesses_74 : decode cX8_mixProcesses 74 = .ok (.istore 4, 2) := by decide +kernel
theorem dX8_mixProcesses_76 : decode cX8_mixProcesses 76 = .ok (.iload 4, 2) := by decide +kernel
theorem dX8_mixProcesses_78 : decode cX8_mixProcesses 78 = .ok (.aload_n 0, 1) := by decide +kernel
theorem dX8_mixProcesses_79 : decode cX8_mixProcesses 79 = .ok (.getfield 24, 3) := by decide +kernel
theorem dX8_mixProcesses_82 : decode cX8_mixProcesses 82 = .ok (.getfield 42, 3) := by decide +kernel
theorem dX8_mixProcesses_85 : decode cX8_mixProcesses 85 = .ok (.invokevirtual 45, 3) := by decide +kernel
theorem dX8_mixProcesses_88 : decode cX8_mixProcesses 88 = .ok (.if_icmp .ge 21, 3) := by decide +kernel
theorem dX8_mixProcesses_91 : decode cX8_mixProcesses 91 = .ok (.lload_n 1, 1) := by decide +kernel
theorem dX8_mixProcesses_92 : decode cX8_mixProcesses 92 = .ok (.aload_n 0, 1) := by decide +kernel
theorem dX8_mixProcesses_93 : decode cX8_mixProcesses 93 = .ok (.iload_n 3, 1) := by decide +kernel
theorem dX8_mixProcesses_94 : decode cX8_mixProcesses 94 = .ok (.iload 4, 2) := by decide +kernel
theorem dX8_mixProcesses_96 : decode cX8_mixProcesses 96 = .ok (.invokevirtual 364, 3) := by decide +kernel
theorem dX8_mixProcesses_99 : decode cX8_mixProcesses 99 = .ok (.invokestatic 311, 3) := by decide +kernel
theorem dX8_mixProcesses_102 : decode cX8_mixProcesses 102 = .ok (.lstore_n 1, 1) := by decide +kernel
theorem dX8_mixProcesses_103 : decode cX8_mixProcesses 103 = .ok (.iinc 4 1, 3) := by decide +kernel
theorem dX8_mixProcesses_106 : decode cX8_mixProcesses 106 = .ok (.goto (-30), 3) := by decide +kernel
theorem dX8_mixProcesses_109 : decode cX8_mixProcesses 109 = .ok (.iinc 3 1, 3) := by decide +kernel
theorem dX8_mixProcesses_112 : decode cX8_mixProcesses 112 = .ok (.goto (-110), 3) := by decide +kernel
theorem dX8_mixProcesses_115 : decode cX8_mixProcesses 115 = .ok (.lload_n 1, 1) := by decide +kernel
theorem dX8_mixProcesses_116 : decode cX8_mixProcesses 116 = .ok (.lreturn, 1) := by decide +kernel
theorem dX8_mixResources_0 : decode cX8_mixResources 0 = .ok (.iconst 0, 1) := by decide +kernel
theorem dX8_mixResources_1 : decode cX8_mixResources 1 = .ok (.istore_n 3, 1) := by decide +kernel
theorem dX8_mixResources_2 : decode cX8_mixResources 2 = .ok (.iload_n 3, 1) := by decide +kernel
theorem dX8_mixResources_3 : decode cX8_mixResources 3 = .ok (.aload_n 0, 1) := by decide +kernel
theorem dX8_mixResources_4 : decode cX8_mixResources 4 = .ok (.getfield 24, 3) := by decide +kernel
theorem dX8_mixResources_7 : decode cX8_mixResources 7 = .ok (.getfield 42, 3) := by decide +kernel
theorem dX8_mixResources_10 : decode cX8_mixResources 10 = .ok (.invokevirtual 45, 3) := by decide +kernel
theorem dX8_mixResources_13 : decode cX8_mixResources 13 = .ok (.if_icmp .ge 91, 3) := by decide +kernel
theorem dX8_mixResources_16 : decode cX8_mixResources 16 = .ok (.aload_n 0, 1) := by decide +kernel
theorem dX8_mixResources_17 : decode cX8_mixResources 17 = .ok (.iload_n 3, 1) := by decide +kernel
theorem dX8_mixResources_18 : decode cX8_mixResources 18 = .ok (.invokevirtual 367, 3) := by decide +kernel
theorem dX8_mixResources_21 : decode cX8_mixResources 21 = .ok (.istore 4, 2) := by decide +kernel
theorem dX8_mixResources_23 : decode cX8_mixResources 23 = .ok (.lload_n 1, 1) := by decide +kernel
theorem dX8_mixResources_24 : decode cX8_mixResources 24 = .ok (.aload_n 0, 1) := by decide +kernel
theorem dX8_mixResources_25 : decode cX8_mixResources 25 = .ok (.iload_n 3, 1) := by decide +kernel
theorem dX8_mixResources_26 : decode cX8_mixResources 26 = .ok (.invokevirtual 370, 3) := by decide +kernel
theorem dX8_mixResources_29 : decode cX8_mixResources 29 = .ok (.invokestatic 311, 3) := by decide +kernel
theorem dX8_mixResources_32 : decode cX8_mixResources 32 = .ok (.lstore_n 1, 1) := by decide +kernel
theorem dX8_mixResources_33 : decode cX8_mixResources 33 = .ok (.lload_n 1, 1) := by decide +kernel
theorem dX8_mixResources_34 : decode cX8_mixResources 34 = .ok (.iload 4, 2) := by decide +kernel
theorem dX8_mixResources_36 : decode cX8_mixResources 36 = .ok (.invokestatic 311, 3) := by decide +kernel
theorem dX8_mixResources_39 : decode cX8_mixResources 39 = .ok (.lstore_n 1, 1) := by decide +kernel
theorem dX8_mixResources_40 : decode cX8_mixResources 40 = .ok (.iconst 0, 1) := by decide +kernel
theorem dX8_mixResources_41 : decode cX8_mixResources 41 = .ok (.istore 5, 2) := by decide +kernel
theorem dX8_mixResources_43 : decode cX8_mixResources 43 = .ok (.iload 5, 2) := by decide +kernel
theorem dX8_mixResources_45 : decode cX8_mixResources 45 = .ok (.iload 4, 2) := by decide +kernel
theorem dX8_mixResources_47 : decode cX8_mixResources 47 = .ok (.if_icmp .ge 21, 3) := by decide +kernel
theorem dX8_mixResources_50 : decode cX8_mixResources 50 = .ok (.lload_n 1, 1) := by decide +kernel
theorem dX8_mixResources_51 : decode cX8_mixResources 51 = .ok (.aload_n 0, 1) := by decide +kernel
theorem dX8_mixResources_52 : decode cX8_mixResources 52 = .ok (.iload_n 3, 1) := by decide +kernel
theorem dX8_mixResources_53 : decode cX8_mixResources 53 = .ok (.iload 5, 2) := by decide +kernel
theorem dX8_mixResources_55 : decode cX8_mixResources 55 = .ok (.invokevirtual 373, 3) := by decide +kernel
theorem dX8_mixResources_58 : decode cX8_mixResources 58 = .ok (.invokestatic 311, 3) := by decide +kernel
theorem dX8_mixResources_61 : decode cX8_mixResources 61 = .ok (.lstore_n 1, 1) := by decide +kernel
theorem dX8_mixResources_62 : decode cX8_mixResources 62 = .ok (.iinc 5 1, 3) := by decide +kernel
theorem dX8_mixResources_65 : decode cX8_mixResources 65 = .ok (.goto (-22), 3) := by decide +kernel
theorem dX8_mixResources_68 : decode cX8_mixResources 68 = .ok (.lload_n 1, 1) := by decide +kernel
theorem dX8_mixResources_69 : decode cX8_mixResources 69 = .ok (.aload_n 0, 1) := by decide +kernel
theorem dX8_mixResources_70 : decode cX8_mixResources 70 = .ok (.iload_n 3, 1) := by decide +kernel
theorem dX8_mixResources_71 : decode cX8_mixResources 71 = .ok (.invokevirtual 376, 3) := by decide +kernel
theorem dX8_mixResources_74 : decode cX8_mixResources 74 = .ok (.invokestatic 311, 3) := by decide +kernel
theorem dX8_mixResources_77 : decode cX8_mixResources 77 = .ok (.lstore_n 1, 1) := by decide +kernel
theorem dX8_mixResources_78 : decode cX8_mixResources 78 = .ok (.lload_n 1, 1) := by decide +kernel
theorem dX8_mixResources_79 : decode cX8_mixResources 79 = .ok (.aload_n 0, 1) := by decide +kernel
theorem dX8_mixResources_80 : decode cX8_mixResources 80 = .ok (.iload_n 3, 1) := by decide +kernel
theorem dX8_mixResources_81 : decode cX8_mixResources 81 = .ok (.invokevirtual 379, 3) := by decide +kernel
theorem dX8_mixResources_84 : decode cX8_mixResources 84 = .ok (.invokestatic 311, 3) := by decide +kernel
theorem dX8_mixResources_87 : decode cX8_mixResources 87 = .ok (.lstore_n 1, 1) := by decide +kernel
theorem dX8_mixResources_88 : decode cX8_mixResources 88 = .ok (.lload_n 1, 1) := by decide +kernel
theorem dX8_mixResources_89 : decode cX8_mixResources 89 = .ok (.aload_n 0, 1) := by decide +kernel
theorem dX8_mixResources_90 : decode cX8_mixResources 90 = .ok (.iload_n 3, 1) := by decide +kernel
theorem dX8_mixResources_91 : decode cX8_mixResources 91 = .ok (.invokevirtual 382, 3) := by decide +kernel
theorem dX8_mixResources_94 : decode cX8_mixResources 94 = .ok (.invokestatic 311, 3) := by decide +kernel
theorem dX8_mixResources_97 : decode cX8_mixResources 97 = .ok (.lstore_n 1, 1) := by decide +kernel
theorem dX8_mixResources_98 : decode cX8_mixResources 98 = .ok (.iinc 3 1, 3) := by decide +kernel
theorem dX8_mixResources_101 : decode cX8_mixResources 101 = .ok (.goto (-99), 3) := by decide +kernel
theorem dX8_mixResources_104 : decode cX8_mixResources 104 = .ok (.lload_n 1, 1) := by decide +kernel
theorem dX8_mixResources_105 : decode cX8_mixResources 105 = .ok (.lreturn, 1) := by decide +kernel
theorem dX8_mixStores_0 : decode cX8_mixStores 0 = .ok (.iconst 0, 1) := by decide +kernel
theorem dX8_mixStores_1 : decode cX8_mixStores 1 = .ok (.istore_n 3, 1) := by decide +kernel
theorem dX8_mixStores_2 : decode cX8_mixStores 2 = .ok (.iload_n 3, 1) := by decide +kernel
theorem dX8_mixStores_3 : decode cX8_mixStores 3 = .ok (.aload_n 0, 1) := by decide +kernel
theorem dX8_mixStores_4 : decode cX8_mixStores 4 = .ok (.getfield 24, 3) := by decide +kernel
theorem dX8_mixStores_7 : decode cX8_mixStores 7 = .ok (.getfield 65, 3) := by decide +kernel
theorem dX8_mixStores_10 : decode cX8_mixStores 10 = .ok (.invokevirtual 45, 3) := by decide +kernel
theorem dX8_mixStores_13 : decode cX8_mixStores 13 = .ok (.if_icmp .ge 51, 3) := by decide +kernel
theorem dX8_mixStores_16 : decode cX8_mixStores 16 = .ok (.lload_n 1, 1) := by decide +kernel
theorem dX8_mixStores_17 : decode cX8_mixStores 17 = .ok (.aload_n 0, 1) := by decide +kernel
theorem dX8_mixStores_18 : decode cX8_mixStores 18 = .ok (.iload_n 3, 1) := by decide +kernel
theorem dX8_mixStores_19 : decode cX8_mixStores 19 = .ok (.invokevirtual 385, 3) := by decide +kernel
theorem dX8_mixStores_22 : decode cX8_mixStores 22 = .ok (.invokestatic 311, 3) := by decide +kernel
theorem dX8_mixStores_25 : decode cX8_mixStores 25 = .ok (.lstore_n 1, 1) := by decide +kernel
theorem dX8_mixStores_26 : decode cX8_mixStores 26 = .ok (.lload_n 1, 1) := by decide +kernel
theorem dX8_mixStores_27 : decode cX8_mixStores 27 = .ok (.aload_n 0, 1) := by decide +kernel
theorem dX8_mixStores_28 : decode cX8_mixStores 28 = .ok (.iload_n 3, 1) := by decide +kernel
theorem dX8_mixStores_29 : decode cX8_mixStores 29 = .ok (.iconst 0, 1) := by decide +kernel
theorem dX8_mixStores_30 : decode cX8_mixStores 30 = .ok (.invokevirtual 388, 3) := by decide +kernel
theorem dX8_mixStores_33 : decode cX8_mixStores 33 = .ok (.invokestatic 311, 3) := by decide +kernel
theorem dX8_mixStores_36 : decode cX8_mixStores 36 = .ok (.lstore_n 1, 1) := by decide +kernel
theorem dX8_mixStores_37 : decode cX8_mixStores 37 = .ok (.lload_n 1, 1) := by decide +kernel
theorem dX8_mixStores_38 : decode cX8_mixStores 38 = .ok (.aload_n 0, 1) := by decide +kernel
theorem dX8_mixStores_39 : decode cX8_mixStores 39 = .ok (.iload_n 3, 1) := by decide +kernel
theorem dX8_mixStores_40 : decode cX8_mixStores 40 = .ok (.iconst 1, 1) := by decide +kernel
theorem dX8_mixStores_41 : decode cX8_mixStores 41 = .ok (.invokevirtual 388, 3) := by decide +kernel
theorem dX8_mixStores_44 : decode cX8_mixStores 44 = .ok (.invokestatic 311, 3) := by decide +kernel
theorem dX8_mixStores_47 : decode cX8_mixStores 47 = .ok (.lstore_n 1, 1) := by decide +kernel
theorem dX8_mixStores_48 : decode cX8_mixStores 48 = .ok (.lload_n 1, 1) := by decide +kernel
theorem dX8_mixStores_49 : decode cX8_mixStores 49 = .ok (.aload_n 0, 1) := by decide +kernel
theorem dX8_mixStores_50 : decode cX8_mixStores 50 = .ok (.iload_n 3, 1) := by decide +kernel
theorem dX8_mixStores_51 : decode cX8_mixStores 51 = .ok (.invokevirtual 392, 3) := by decide +kernel
theorem dX8_mixStores_54 : decode cX8_mixStores 54 = .ok (.invokestatic 311, 3) := by decide +kernel
theorem dX8_mixStores_57 : decode cX8_mixStores 57 = .ok (.lstore_n 1, 1) := by decide +kernel
theorem dX8_mixStores_58 : decode cX8_mixStores 58 = .ok (.iinc 3 1, 3) := by decide +kernel
theorem dX8_mixStores_61 : decode cX8_mixStores 61 = .ok (.goto (-59), 3) := by decide +kernel
theorem dX8_mixStores_64 : decode cX8_mixStores 64 = .ok (.lload_n 1, 1) := by decide +kernel
theorem dX8_mixStores_65 : decode cX8_mixStores 65 = .ok (.lreturn, 1) := by decide +kernel
theorem dX8_mixTallies_0 : decode cX8_mixTallies 0 = .ok (.iconst 0, 1) := by decide +kernel
theorem dX8_mixTallies_1 : decode cX8_mixTallies 1 = .ok (.istore_n 3, 1) := by decide +kernel
theorem dX8_mixTallies_2 : decode cX8_mixTallies 2 = .ok (.iload_n 3, 1) := by decide +kernel
theorem dX8_mixTallies_3 : decode cX8_mixTallies 3 = .ok (.aload_n 0, 1) := by decide +kernel
theorem dX8_mixTallies_4 : decode cX8_mixTallies 4 = .ok (.getfield 16, 3) := by decide +kernel
theorem dX8_mixTallies_7 : decode cX8_mixTallies 7 = .ok (.invokevirtual 45, 3) := by decide +kernel
theorem dX8_mixTallies_10 : decode cX8_mixTallies 10 = .ok (.if_icmp .ge 88, 3) := by decide +kernel
theorem dX8_mixTallies_13 : decode cX8_mixTallies 13 = .ok (.lload_n 1, 1) := by decide +kernel
theorem dX8_mixTallies_14 : decode cX8_mixTallies 14 = .ok (.aload_n 0, 1) := by decide +kernel
theorem dX8_mixTallies_15 : decode cX8_mixTallies 15 = .ok (.iload_n 3, 1) := by decide +kernel
theorem dX8_mixTallies_16 : decode cX8_mixTallies 16 = .ok (.invokevirtual 395, 3) := by decide +kernel
theorem dX8_mixTallies_19 : decode cX8_mixTallies 19 = .ok (.invokestatic 311, 3) := by decide +kernel
theorem dX8_mixTallies_22 : decode cX8_mixTallies 22 = .ok (.lstore_n 1, 1) := by decide +kernel
theorem dX8_mixTallies_23 : decode cX8_mixTallies 23 = .ok (.iconst 0, 1) := by decide +kernel
theorem dX8_mixTallies_24 : decode cX8_mixTallies 24 = .ok (.istore 4, 2) := by decide +kernel
theorem dX8_mixTallies_26 : decode cX8_mixTallies 26 = .ok (.iload 4, 2) := by decide +kernel
theorem dX8_mixTallies_28 : decode cX8_mixTallies 28 = .ok (.iconst 3, 1) := by decide +kernel
theorem dX8_mixTallies_29 : decode cX8_mixTallies 29 = .ok (.if_icmp .gt 21, 3) := by decide +kernel
theorem dX8_mixTallies_32 : decode cX8_mixTallies 32 = .ok (.lload_n 1, 1) := by decide +kernel
theorem dX8_mixTallies_33 : decode cX8_mixTallies 33 = .ok (.aload_n 0, 1) := by decide +kernel
theorem dX8_mixTallies_34 : decode cX8_mixTallies 34 = .ok (.iload_n 3, 1) := by decide +kernel
theorem dX8_mixTallies_35 : decode cX8_mixTallies 35 = .ok (.iload 4, 2) := by decide +kernel
theorem dX8_mixTallies_37 : decode cX8_mixTallies 37 = .ok (.invokevirtual 398, 3) := by decide +kernel
theorem dX8_mixTallies_40 : decode cX8_mixTallies 40 = .ok (.invokestatic 311, 3) := by decide +kernel
theorem dX8_mixTallies_43 : decode cX8_mixTallies 43 = .ok (.lstore_n 1, 1) := by decide +kernel
theorem dX8_mixTallies_44 : decode cX8_mixTallies 44 = .ok (.iinc 4 1, 3) := by decide +kernel
theorem dX8_mixTallies_47 : decode cX8_mixTallies 47 = .ok (.goto (-21), 3) := by decide +kernel
theorem dX8_mixTallies_50 : decode cX8_mixTallies 50 = .ok (.aload_n 0, 1) := by decide +kernel
theorem dX8_mixTallies_51 : decode cX8_mixTallies 51 = .ok (.iload_n 3, 1) := by decide +kernel
theorem dX8_mixTallies_52 : decode cX8_mixTallies 52 = .ok (.invokevirtual 401, 3) := by decide +kernel
theorem dX8_mixTallies_55 : decode cX8_mixTallies 55 = .ok (.istore 4, 2) := by decide +kernel
theorem dX8_mixTallies_57 : decode cX8_mixTallies 57 = .ok (.lload_n 1, 1) := by decide +kernel
theorem dX8_mixTallies_58 : decode cX8_mixTallies 58 = .ok (.iload 4, 2) := by decide +kernel
theorem dX8_mixTallies_60 : decode cX8_mixTallies 60 = .ok (.invokestatic 311, 3) := by decide +kernel
theorem dX8_mixTallies_63 : decode cX8_mixTallies 63 = .ok (.lstore_n 1, 1) := by decide +kernel
theorem dX8_mixTallies_64 : decode cX8_mixTallies 64 = .ok (.iconst 0, 1) := by decide +kernel
theorem dX8_mixTallies_65 : decode cX8_mixTallies 65 = .ok (.istore 5, 2) := by decide +kernel
theorem dX8_mixTallies_67 : decode cX8_mixTallies 67 = .ok (.iload 5, 2) := by decide +kernel
theorem dX8_mixTallies_69 : decode cX8_mixTallies 69 = .ok (.iload 4, 2) := by decide +kernel
theorem dX8_mixTallies_71 : decode cX8_mixTallies 71 = .ok (.if_icmp .ge 21, 3) := by decide +kernel
theorem dX8_mixTallies_74 : decode cX8_mixTallies 74 = .ok (.lload_n 1, 1) := by decide +kernel
theorem dX8_mixTallies_75 : decode cX8_mixTallies 75 = .ok (.aload_n 0, 1) := by decide +kernel
theorem dX8_mixTallies_76 : decode cX8_mixTallies 76 = .ok (.iload_n 3, 1) := by decide +kernel
theorem dX8_mixTallies_77 : decode cX8_mixTallies 77 = .ok (.iload 5, 2) := by decide +kernel
theorem dX8_mixTallies_79 : decode cX8_mixTallies 79 = .ok (.invokevirtual 404, 3) := by decide +kernel
theorem dX8_mixTallies_82 : decode cX8_mixTallies 82 = .ok (.invokestatic 311, 3) := by decide +kernel
theorem dX8_mixTallies_85 : decode cX8_mixTallies 85 = .ok (.lstore_n 1, 1) := by decide +kernel
theorem dX8_mixTallies_86 : decode cX8_mixTallies 86 = .ok (.iinc 5 1, 3) := by decide +kernel
theorem dX8_mixTallies_89 : decode cX8_mixTallies 89 = .ok (.goto (-22), 3) := by decide +kernel
theorem dX8_mixTallies_92 : decode cX8_mixTallies 92 = .ok (.iinc 3 1, 3) := by decide +kernel
theorem dX8_mixTallies_95 : decode cX8_mixTallies 95 = .ok (.goto (-93), 3) := by decide +kernel
theorem dX8_mixTallies_98 : decode cX8_mixTallies 98 = .ok (.lload_n 1, 1) := by decide +kernel
theorem dX8_mixTallies_99 : decode cX8_mixTallies 99 = .ok (.lreturn, 1) := by decide +kernel
theorem dX8_isIn_0 : decode cX8_isIn 0 = .ok (.iload_n 0, 1) := by decide +kernel
theorem dX8_isIn_1 : decode cX8_isIn 1 = .ok (.iload_n 1, 1) := by decide +kernel
theorem dX8_isIn_2 : decode cX8_isIn 2 = .ok (.if_icmp .lt 12, 3) := by decide +kernel
theorem dX8_isIn_5 : decode cX8_isIn 5 = .ok (.iload_n 0, 1) := by decide +kernel
theorem dX8_isIn_6 : decode cX8_isIn 6 = .ok (.iload_n 2, 1) := by decide +kernel
theorem dX8_isIn_7 : decode cX8_isIn 7 = .ok (.if_icmp .gt 7, 3) := by decide +kernel
theorem dX8_isIn_10 : decode cX8_isIn 10 = .ok (.iconst 1, 1) := by decide +kernel
theorem dX8_isIn_11 : decode cX8_isIn 11 = .ok (.goto 4, 3) := by decide +kernel
theorem dX8_isIn_14 : decode cX8_isIn 14 = .ok (.iconst 0, 1) := by decide +kernel
theorem dX8_isIn_15 : decode cX8_isIn 15 = .ok (.ireturn, 1) := by decide +kernel
theorem dX8_isSignal_0 : decode cX8_isSignal 0 = .ok (.iload_n 0, 1) := by decide +kernel
theorem dX8_isSignal_1 : decode cX8_isSignal 1 = .ok (.iconst 0, 1) := by decide +kernel
theorem dX8_isSignal_2 : decode cX8_isSignal 2 = .ok (.iconst 3, 1) := by decide +kernel
theorem dX8_isSignal_3 : decode cX8_isSignal 3 = .ok (.invokestatic 31, 3) := by decide +kernel
theorem dX8_isSignal_6 : decode cX8_isSignal 6 = .ok (.ireturn, 1) := by decide +kernel
theorem dX8_isInstruction_0 : decode cX8_isInstruction 0 = .ok (.iload_n 1, 1) := by decide +kernel
theorem dX8_isInstruction_1 : decode cX8_isInstruction 1 = .ok (.tableswitch 236 0 13 #[71, 97, 97, 124, 124, 151, 151, 156, 183, 185, 202, 183, 228, 124], 71) := by decide +kernel
theorem dX8_isInstruction_72 : decode cX8_isInstruction 72 = .ok (.iload_n 2, 1) := by decide +kernel
theorem dX8_isInstruction_73 : decode cX8_isInstruction 73 = .ok (.iconst 0, 1) := by decide +kernel
theorem dX8_isInstruction_74 : decode cX8_isInstruction 74 = .ok (.bipush 99, 2) := by decide +kernel
theorem dX8_isInstruction_76 : decode cX8_isInstruction 76 = .ok (.invokestatic 31, 3) := by decide +kernel
theorem dX8_isInstruction_79 : decode cX8_isInstruction 79 = .ok (.ifCond .eq 17, 3) := by decide +kernel
theorem dX8_isInstruction_82 : decode cX8_isInstruction 82 = .ok (.iload_n 3, 1) := by decide +kernel
theorem dX8_isInstruction_83 : decode cX8_isInstruction 83 = .ok (.iconst 0, 1) := by decide +kernel
theorem dX8_isInstruction_84 : decode cX8_isInstruction 84 = .ok (.bipush 50, 2) := by decide +kernel
theorem dX8_isInstruction_86 : decode cX8_isInstruction 86 = .ok (.invokestatic 31, 3) := by decide +kernel
theorem dX8_isInstruction_89 : decode cX8_isInstruction 89 = .ok (.ifCond .eq 7, 3) := by decide +kernel
theorem dX8_isInstruction_92 : decode cX8_isInstruction 92 = .ok (.iconst 1, 1) := by decide +kernel
theorem dX8_isInstruction_93 : decode cX8_isInstruction 93 = .ok (.goto 4, 3) := by decide +kernel
theorem dX8_isInstruction_96 : decode cX8_isInstruction 96 = .ok (.iconst 0, 1) := by decide +kernel
theorem dX8_isInstruction_97 : decode cX8_isInstruction 97 = .ok (.ireturn, 1) := by decide +kernel
theorem dX8_isInstruction_98 : decode cX8_isInstruction 98 = .ok (.aload_n 0, 1) := by decide +kernel
theorem dX8_isInstruction_99 : decode cX8_isInstruction 99 = .ok (.getfield 24, 3) := by decide +kernel
theorem dX8_isInstruction_102 : decode cX8_isInstruction 102 = .ok (.iload_n 2, 1) := by decide +kernel
theorem dX8_isInstruction_103 : decode cX8_isInstruction 103 = .ok (.invokevirtual 304, 3) := by decide +kernel
theorem dX8_isInstruction_106 : decode cX8_isInstruction 106 = .ok (.ifnull 17, 3) := by decide +kernel
theorem dX8_isInstruction_109 : decode cX8_isInstruction 109 = .ok (.iload_n 3, 1) := by decide +kernel
theorem dX8_isInstruction_110 : decode cX8_isInstruction 110 = .ok (.iconst 1, 1) := by decide +kernel
theorem dX8_isInstruction_111 : decode cX8_isInstruction 111 = .ok (.bipush 9, 2) := by decide +kernel
theorem dX8_isInstruction_113 : decode cX8_isInstruction 113 = .ok (.invokestatic 31, 3) := by decide +kernel
theorem dX8_isInstruction_116 : decode cX8_isInstruction 116 = .ok (.ifCond .eq 7, 3) := by decide +kernel
theorem dX8_isInstruction_119 : decode cX8_isInstruction 119 = .ok (.iconst 1, 1) := by decide +kernel
theorem dX8_isInstruction_120 : decode cX8_isInstruction 120 = .ok (.goto 4, 3) := by decide +kernel
theorem dX8_isInstruction_123 : decode cX8_isInstruction 123 = .ok (.iconst 0, 1) := by decide +kernel
theorem dX8_isInstruction_124 : decode cX8_isInstruction 124 = .ok (.ireturn, 1) := by decide +kernel
theorem dX8_isInstruction_125 : decode cX8_isInstruction 125 = .ok (.aload_n 0, 1) := by decide +kernel
theorem dX8_isInstruction_126 : decode cX8_isInstruction 126 = .ok (.getfield 24, 3) := by decide +kernel
theorem dX8_isInstruction_129 : decode cX8_isInstruction 129 = .ok (.iload_n 2, 1) := by decide +kernel
theorem dX8_isInstruction_130 : decode cX8_isInstruction 130 = .ok (.invokevirtual 407, 3) := by decide +kernel
theorem dX8_isInstruction_133 : decode cX8_isInstruction 133 = .ok (.ifnull 17, 3) := by decide +kernel
theorem dX8_isInstruction_136 : decode cX8_isInstruction 136 = .ok (.iload_n 3, 1) := by decide +kernel
theorem dX8_isInstruction_137 : decode cX8_isInstruction 137 = .ok (.iconst 1, 1) := by decide +kernel
theorem dX8_isInstruction_138 : decode cX8_isInstruction 138 = .ok (.bipush 99, 2) := by decide +kernel
theorem dX8_isInstruction_140 : decode cX8_isInstruction 140 = .ok (.invokestatic 31, 3) := by decide +kernel
theorem dX8_isInstruction_143 : decode cX8_isInstruction 143 = .ok (.ifCond .eq 7, 3) := by decide +kernel
theorem dX8_isInstruction_146 : decode cX8_isInstruction 146 = .ok (.iconst 1, 1) := by decide +kernel
theorem dX8_isInstruction_147 : decode cX8_isInstruction 147 = .ok (.goto 4, 3) := by decide +kernel
theorem dX8_isInstruction_150 : decode cX8_isInstruction 150 = .ok (.iconst 0, 1) := by decide +kernel
theorem dX8_isInstruction_151 : decode cX8_isInstruction 151 = .ok (.ireturn, 1) := by decide +kernel
theorem dX8_isInstruction_152 : decode cX8_isInstruction 152 = .ok (.iload_n 2, 1) := by decide +kernel
theorem dX8_isInstruction_153 : decode cX8_isInstruction 153 = .ok (.invokestatic 255, 3) := by decide +kernel
theorem dX8_isInstruction_156 : decode cX8_isInstruction 156 = .ok (.ireturn, 1) := by decide +kernel
theorem dX8_isInstruction_157 : decode cX8_isInstruction 157 = .ok (.aload_n 0, 1) := by decide +kernel
theorem dX8_isInstruction_158 : decode cX8_isInstruction 158 = .ok (.getfield 24, 3) := by decide +kernel
theorem dX8_isInstruction_161 : decode cX8_isInstruction 161 = .ok (.iload_n 2, 1) := by decide +kernel
theorem dX8_isInstruction_162 : decode cX8_isInstruction 162 = .ok (.invokevirtual 410, 3) := by decide +kernel
theorem dX8_isInstruction_165 : decode cX8_isInstruction 165 = .ok (.ifnull 17, 3) := by decide +kernel
theorem dX8_isInstruction_168 : decode cX8_isInstruction 168 = .ok (.iload_n 3, 1) := by decide +kernel
theorem dX8_isInstruction_169 : decode cX8_isInstruction 169 = .ok (.iconst 0, 1) := by decide +kernel
theorem dX8_isInstruction_170 : decode cX8_isInstruction 170 = .ok (.bipush 9, 2) := by decide +kernel
theorem dX8_isInstruction_172 : decode cX8_isInstruction 172 = .ok (.invokestatic 31, 3) := by decide +kernel
theorem dX8_isInstruction_175 : decode cX8_isInstruction 175 = .ok (.ifCond .eq 7, 3) := by decide +kernel
theorem dX8_isInstruction_178 : decode cX8_isInstruction 178 = .ok (.iconst 1, 1) := by decide +kernel
theorem dX8_isInstruction_179 : decode cX8_isInstruction 179 = .ok (.goto 4, 3) := by decide +kernel
theorem dX8_isInstruction_182 : decode cX8_isInstruction 182 = .ok (.iconst 0, 1) := by decide +kernel
theorem dX8_isInstruction_183 : decode cX8_isInstruction 183 = .ok (.ireturn, 1) := by decide +kernel
theorem dX8_isInstruction_184 : decode cX8_isInstruction 184 = .ok (.iconst 1, 1) := by decide +kernel
theorem dX8_isInstruction_185 : decode cX8_isInstruction 185 = .ok (.ireturn, 1) := by decide +kernel
theorem dX8_isInstruction_186 : decode cX8_isInstruction 186 = .ok (.aload_n 0, 1) := by decide +kernel
theorem dX8_isInstruction_187 : decode cX8_isInstruction 187 = .ok (.getfield 24, 3) := by decide +kernel
theorem dX8_isInstruction_190 : decode cX8_isInstruction 190 = .ok (.iload_n 2, 1) := by decide +kernel
theorem dX8_isInstruction_191 : decode cX8_isInstruction 191 = .ok (.invokevirtual 413, 3) := by decide +kernel
theorem dX8_isInstruction_194 : decode cX8_isInstruction 194 = .ok (.ifnull 7, 3) := by decide +kernel
theorem dX8_isInstruction_197 : decode cX8_isInstruction 197 = .ok (.iconst 1, 1) := by decide +kernel
theorem dX8_isInstruction_198 : decode cX8_isInstruction 198 = .ok (.goto 4, 3) := by decide +kernel
theorem dX8_isInstruction_201 : decode cX8_isInstruction 201 = .ok (.iconst 0, 1) := by decide +kernel
theorem dX8_isInstruction_202 : decode cX8_isInstruction 202 = .ok (.ireturn, 1) := by decide +kernel
theorem dX8_isInstruction_203 : decode cX8_isInstruction 203 = .ok (.iload_n 2, 1) := by decide +kernel
theorem dX8_isInstruction_204 : decode cX8_isInstruction 204 = .ok (.iconst 0, 1) := by decide +kernel
theorem dX8_isInstruction_205 : decode cX8_isInstruction 205 = .ok (.bipush 15, 2) := by decide +kernel
theorem dX8_isInstruction_207 : decode cX8_isInstruction 207 = .ok (.invokestatic 31, 3) := by decide +kernel
theorem dX8_isInstruction_210 : decode cX8_isInstruction 210 = .ok (.ifCond .eq 17, 3) := by decide +kernel
theorem dX8_isInstruction_213 : decode cX8_isInstruction 213 = .ok (.iload_n 3, 1) := by decide +kernel
theorem dX8_isInstruction_214 : decode cX8_isInstruction 214 = .ok (.iconst 0, 1) := by decide +kernel
theorem dX8_isInstruction_215 : decode cX8_isInstruction 215 = .ok (.bipush 20, 2) := by decide +kernel
theorem dX8_isInstruction_217 : decode cX8_isInstruction 217 = .ok (.invokestatic 31, 3) := by decide +kernel
theorem dX8_isInstruction_220 : decode cX8_isInstruction 220 = .ok (.ifCond .eq 7, 3) := by decide +kernel
theorem dX8_isInstruction_223 : decode cX8_isInstruction 223 = .ok (.iconst 1, 1) := by decide +kernel
theorem dX8_isInstruction_224 : decode cX8_isInstruction 224 = .ok (.goto 4, 3) := by decide +kernel
theorem dX8_isInstruction_227 : decode cX8_isInstruction 227 = .ok (.iconst 0, 1) := by decide +kernel
theorem dX8_isInstruction_228 : decode cX8_isInstruction 228 = .ok (.ireturn, 1) := by decide +kernel
theorem dX8_isInstruction_229 : decode cX8_isInstruction 229 = .ok (.iload_n 2, 1) := by decide +kernel
theorem dX8_isInstruction_230 : decode cX8_isInstruction 230 = .ok (.iconst 0, 1) := by decide +kernel
theorem dX8_isInstruction_231 : decode cX8_isInstruction 231 = .ok (.bipush 9, 2) := by decide +kernel
theorem dX8_isInstruction_233 : decode cX8_isInstruction 233 = .ok (.invokestatic 31, 3) := by decide +kernel
theorem dX8_isInstruction_236 : decode cX8_isInstruction 236 = .ok (.ireturn, 1) := by decide +kernel
theorem dX8_isInstruction_237 : decode cX8_isInstruction 237 = .ok (.iconst 0, 1) := by decide +kernel
theorem dX8_isInstruction_238 : decode cX8_isInstruction 238 = .ok (.ireturn, 1) := by decide +kernel
theorem dX8_demandResource_0 : decode cX8_demandResource 0 = .ok (.aload_n 0, 1) := by decide +kernel
theorem dX8_demandResource_1 : decode cX8_demandResource 1 = .ok (.getfield 24, 3) := by decide +kernel
theorem dX8_demandResource_4 : decode cX8_demandResource 4 = .ok (.iload_n 1, 1) := by decide +kernel
theorem dX8_demandResource_5 : decode cX8_demandResource 5 = .ok (.invokevirtual 304, 3) := by decide +kernel
theorem dX8_demandResource_8 : decode cX8_demandResource 8 = .ok (.astore_n 2, 1) := by decide +kernel
theorem dX8_demandResource_9 : decode cX8_demandResource 9 = .ok (.aload_n 2, 1) := by decide +kernel
theorem dX8_demandResource_10 : decode cX8_demandResource 10 = .ok (.ifnonnull 14, 3) := by decide +kernel
theorem dX8_demandResource_13 : decode cX8_demandResource 13 = .ok (.new 227, 3) := by decide +kernel
theorem dX8_demandResource_16 : decode cX8_demandResource 16 = .ok (.dup, 1) := by decide +kernel
theorem dX8_demandResource_17 : decode cX8_demandResource 17 = .ok (.ldc_w 416, 3) := by decide +kernel
theorem dX8_demandResource_20 : decode cX8_demandResource 20 = .ok (.invokespecial 231, 3) := by decide +kernel
theorem dX8_demandResource_23 : decode cX8_demandResource 23 = .ok (.athrow, 1) := by decide +kernel
theorem dX8_demandResource_24 : decode cX8_demandResource 24 = .ok (.aload_n 2, 1) := by decide +kernel
theorem dX8_demandResource_25 : decode cX8_demandResource 25 = .ok (.areturn, 1) := by decide +kernel
theorem dX8_demandStore_0 : decode cX8_demandStore 0 = .ok (.aload_n 0, 1) := by decide +kernel
theorem dX8_demandStore_1 : decode cX8_demandStore 1 = .ok (.getfield 24, 3) := by decide +kernel
theorem dX8_demandStore_4 : decode cX8_demandStore 4 = .ok (.iload_n 1, 1) := by decide +kernel
theorem dX8_demandStore_5 : decode cX8_demandStore 5 = .ok (.invokevirtual 407, 3) := by decide +kernel
theorem dX8_demandStore_8 : decode cX8_demandStore 8 = .ok (.astore_n 2, 1) := by decide +kernel
theorem dX8_demandStore_9 : decode cX8_demandStore 9 = .ok (.aload_n 2, 1) := by decide +kernel
theorem dX8_demandStore_10 : decode cX8_demandStore 10 = .ok (.ifnonnull 14, 3) := by decide +kernel
theorem dX8_demandStore_13 : decode cX8_demandStore 13 = .ok (.new 227, 3) := by decide +kernel
theorem dX8_demandStore_16 : decode cX8_demandStore 16 = .ok (.dup, 1) := by decide +kernel
theorem dX8_demandStore_17 : decode cX8_demandStore 17 = .ok (.ldc_w 418, 3) := by decide +kernel
theorem dX8_demandStore_20 : decode cX8_demandStore 20 = .ok (.invokespecial 231, 3) := by decide +kernel
theorem dX8_demandStore_23 : decode cX8_demandStore 23 = .ok (.athrow, 1) := by decide +kernel
theorem dX8_demandStore_24 : decode cX8_demandStore 24 = .ok (.aload_n 2, 1) := by decide +kernel
theorem dX8_demandStore_25 : decode cX8_demandStore 25 = .ok (.areturn, 1) := by decide +kernel
theorem dX8_demandTally_0 : decode cX8_demandTally 0 = .ok (.aload_n 0, 1) := by decide +kernel
theorem dX8_demandTally_1 : decode cX8_demandTally 1 = .ok (.getfield 24, 3) := by decide +kernel
theorem dX8_demandTally_4 : decode cX8_demandTally 4 = .ok (.iload_n 1, 1) := by decide +kernel
theorem dX8_demandTally_5 : decode cX8_demandTally 5 = .ok (.invokevirtual 413, 3) := by decide +kernel
theorem dX8_demandTally_8 : decode cX8_demandTally 8 = .ok (.astore_n 2, 1) := by decide +kernel
theorem dX8_demandTally_9 : decode cX8_demandTally 9 = .ok (.aload_n 2, 1) := by decide +kernel
theorem dX8_demandTally_10 : decode cX8_demandTally 10 = .ok (.ifnonnull 14, 3) := by decide +kernel
theorem dX8_demandTally_13 : decode cX8_demandTally 13 = .ok (.new 227, 3) := by decide +kernel
theorem dX8_demandTally_16 : decode cX8_demandTally 16 = .ok (.dup, 1) := by decide +kernel
theorem dX8_demandTally_17 : decode cX8_demandTally 17 = .ok (.ldc_w 420, 3) := by decide +kernel
theorem dX8_demandTally_20 : decode cX8_demandTally 20 = .ok (.invokespecial 231, 3) := by decide +kernel
theorem dX8_demandTally_23 : decode cX8_demandTally 23 = .ok (.athrow, 1) := by decide +kernel
theorem dX8_demandTally_24 : decode cX8_demandTally 24 = .ok (.aload_n 2, 1) := by decide +kernel
theorem dX8_demandTally_25 : decode cX8_demandTally 25 = .ok (.areturn, 1) := by decide +kernel
theorem dX8_demandScript_0 : decode cX8_demandScript 0 = .ok (.aload_n 0, 1) := by decide +kernel
theorem dX8_demandScript_1 : decode cX8_demandScript 1 = .ok (.getfield 24, 3) := by decide +kernel
theorem dX8_demandScript_4 : decode cX8_demandScript 4 = .ok (.iload_n 1, 1) := by decide +kernel
theorem dX8_demandScript_5 : decode cX8_demandScript 5 = .ok (.invokevirtual 410, 3) := by decide +kernel
theorem dX8_demandScript_8 : decode cX8_demandScript 8 = .ok (.astore_n 2, 1) := by decide +kernel
theorem dX8_demandScript_9 : decode cX8_demandScript 9 = .ok (.aload_n 2, 1) := by decide +kernel
end
section
theorem dX8_demandScript_10 : decode cX8_demandScript 10 = .ok (.ifnonnull 14, 3) := by decide +kernel
theorem dX8_demandScript_13 : decode cX8_demandScript 13 = .ok (.new 227, 3) := by decide +kernel
theorem dX8_demandScript_16 : decode cX8_demandScript 16 = .ok (.dup, 1) := by decide +kernel
theorem dX8_demandScript_17 : decode cX8_demandScript 17 = .ok (.ldc_w 422, 3) := by decide +kernel
theorem dX8_demandScript_20 : decode cX8_demandScript 20 = .ok (.invokespecial 231, 3) := by decide +kernel
theorem dX8_demandScript_23 : decode cX8_demandScript 23 = .ok (.athrow, 1) := by decide +kernel
theorem dX8_demandScript_24 : decode cX8_demandScript 24 = .ok (.aload_n 2, 1) := by decide +kernel
theorem dX8_demandScript_25 : decode cX8_demandScript 25 = .ok (.areturn, 1) := by decide +kernel
theorem dX8_demandProcess_0 : decode cX8_demandProcess 0 = .ok (.aload_n 0, 1) := by decide +kernel
theorem dX8_demandProcess_1 : decode cX8_demandProcess 1 = .ok (.getfield 24, 3) := by decide +kernel
theorem dX8_demandProcess_4 : decode cX8_demandProcess 4 = .ok (.iload_n 1, 1) := by decide +kernel
theorem dX8_demandProcess_5 : decode cX8_demandProcess 5 = .ok (.invokevirtual 424, 3) := by decide +kernel
theorem dX8_demandProcess_8 : decode cX8_demandProcess 8 = .ok (.astore_n 2, 1) := by decide +kernel
theorem dX8_demandProcess_9 : decode cX8_demandProcess 9 = .ok (.aload_n 2, 1) := by decide +kernel
theorem dX8_demandProcess_10 : decode cX8_demandProcess 10 = .ok (.ifnonnull 14, 3) := by decide +kernel
theorem dX8_demandProcess_13 : decode cX8_demandProcess 13 = .ok (.new 227, 3) := by decide +kernel
theorem dX8_demandProcess_16 : decode cX8_demandProcess 16 = .ok (.dup, 1) := by decide +kernel
theorem dX8_demandProcess_17 : decode cX8_demandProcess 17 = .ok (.ldc_w 427, 3) := by decide +kernel
theorem dX8_demandProcess_20 : decode cX8_demandProcess 20 = .ok (.invokespecial 231, 3) := by decide +kernel
theorem dX8_demandProcess_23 : decode cX8_demandProcess 23 = .ok (.athrow, 1) := by decide +kernel
theorem dX8_demandProcess_24 : decode cX8_demandProcess 24 = .ok (.aload_n 2, 1) := by decide +kernel
theorem dX8_demandProcess_25 : decode cX8_demandProcess 25 = .ok (.areturn, 1) := by decide +kernel
theorem dX8_at_0 : decode cX8_at 0 = .ok (.iload_n 1, 1) := by decide +kernel
theorem dX8_at_1 : decode cX8_at 1 = .ok (.ifCond .lt 15, 3) := by decide +kernel
theorem dX8_at_4 : decode cX8_at 4 = .ok (.iload_n 1, 1) := by decide +kernel
theorem dX8_at_5 : decode cX8_at 5 = .ok (.aload_n 0, 1) := by decide +kernel
theorem dX8_at_6 : decode cX8_at 6 = .ok (.arraylength, 1) := by decide +kernel
theorem dX8_at_7 : decode cX8_at 7 = .ok (.if_icmp .ge 9, 3) := by decide +kernel
theorem dX8_at_10 : decode cX8_at 10 = .ok (.aload_n 0, 1) := by decide +kernel
theorem dX8_at_11 : decode cX8_at 11 = .ok (.iload_n 1, 1) := by decide +kernel
theorem dX8_at_12 : decode cX8_at 12 = .ok (.iaload, 1) := by decide +kernel
theorem dX8_at_13 : decode cX8_at 13 = .ok (.goto 4, 3) := by decide +kernel
theorem dX8_at_16 : decode cX8_at 16 = .ok (.iconst 0, 1) := by decide +kernel
theorem dX8_at_17 : decode cX8_at 17 = .ok (.ireturn, 1) := by decide +kernel
theorem dX8_set_0 : decode cX8_set 0 = .ok (.iload_n 1, 1) := by decide +kernel
theorem dX8_set_1 : decode cX8_set 1 = .ok (.ifCond .lt 13, 3) := by decide +kernel
theorem dX8_set_4 : decode cX8_set 4 = .ok (.iload_n 1, 1) := by decide +kernel
theorem dX8_set_5 : decode cX8_set 5 = .ok (.aload_n 0, 1) := by decide +kernel
theorem dX8_set_6 : decode cX8_set 6 = .ok (.arraylength, 1) := by decide +kernel
theorem dX8_set_7 : decode cX8_set 7 = .ok (.if_icmp .ge 7, 3) := by decide +kernel
theorem dX8_set_10 : decode cX8_set 10 = .ok (.aload_n 0, 1) := by decide +kernel
theorem dX8_set_11 : decode cX8_set 11 = .ok (.iload_n 1, 1) := by decide +kernel
theorem dX8_set_12 : decode cX8_set 12 = .ok (.iload_n 2, 1) := by decide +kernel
theorem dX8_set_13 : decode cX8_set 13 = .ok (.iastore, 1) := by decide +kernel
theorem dX8_set_14 : decode cX8_set 14 = .ok (.return_, 1) := by decide +kernel
theorem dX8_copyRow_0 : decode cX8_copyRow 0 = .ok (.iconst 0, 1) := by decide +kernel
theorem dX8_copyRow_1 : decode cX8_copyRow 1 = .ok (.istore_n 2, 1) := by decide +kernel
theorem dX8_copyRow_2 : decode cX8_copyRow 2 = .ok (.iload_n 2, 1) := by decide +kernel
theorem dX8_copyRow_3 : decode cX8_copyRow 3 = .ok (.aload_n 0, 1) := by decide +kernel
theorem dX8_copyRow_4 : decode cX8_copyRow 4 = .ok (.arraylength, 1) := by decide +kernel
theorem dX8_copyRow_5 : decode cX8_copyRow 5 = .ok (.if_icmp .ge 21, 3) := by decide +kernel
theorem dX8_copyRow_8 : decode cX8_copyRow 8 = .ok (.iload_n 2, 1) := by decide +kernel
theorem dX8_copyRow_9 : decode cX8_copyRow 9 = .ok (.aload_n 1, 1) := by decide +kernel
theorem dX8_copyRow_10 : decode cX8_copyRow 10 = .ok (.arraylength, 1) := by decide +kernel
theorem dX8_copyRow_11 : decode cX8_copyRow 11 = .ok (.if_icmp .ge 15, 3) := by decide +kernel
theorem dX8_copyRow_14 : decode cX8_copyRow 14 = .ok (.aload_n 1, 1) := by decide +kernel
theorem dX8_copyRow_15 : decode cX8_copyRow 15 = .ok (.iload_n 2, 1) := by decide +kernel
theorem dX8_copyRow_16 : decode cX8_copyRow 16 = .ok (.aload_n 0, 1) := by decide +kernel
theorem dX8_copyRow_17 : decode cX8_copyRow 17 = .ok (.iload_n 2, 1) := by decide +kernel
theorem dX8_copyRow_18 : decode cX8_copyRow 18 = .ok (.iaload, 1) := by decide +kernel
theorem dX8_copyRow_19 : decode cX8_copyRow 19 = .ok (.iastore, 1) := by decide +kernel
theorem dX8_copyRow_20 : decode cX8_copyRow 20 = .ok (.iinc 2 1, 3) := by decide +kernel
theorem dX8_copyRow_23 : decode cX8_copyRow 23 = .ok (.goto (-21), 3) := by decide +kernel
theorem dX8_copyRow_26 : decode cX8_copyRow 26 = .ok (.return_, 1) := by decide +kernel
theorem dX9_init_0 : decode cX9_init 0 = .ok (.aload_n 0, 1) := by decide +kernel
theorem dX9_init_1 : decode cX9_init 1 = .ok (.invokespecial 1, 3) := by decide +kernel
theorem dX9_init_4 : decode cX9_init 4 = .ok (.aload_n 0, 1) := by decide +kernel
theorem dX9_init_5 : decode cX9_init 5 = .ok (.bipush 24, 2) := by decide +kernel
theorem dX9_init_7 : decode cX9_init 7 = .ok (.newarray .int, 2) := by decide +kernel
theorem dX9_init_9 : decode cX9_init 9 = .ok (.putfield 7, 3) := by decide +kernel
theorem dX9_init_12 : decode cX9_init 12 = .ok (.aload_n 0, 1) := by decide +kernel
theorem dX9_init_13 : decode cX9_init 13 = .ok (.bipush 24, 2) := by decide +kernel
theorem dX9_init_15 : decode cX9_init 15 = .ok (.newarray .int, 2) := by decide +kernel
theorem dX9_init_17 : decode cX9_init 17 = .ok (.putfield 13, 3) := by decide +kernel
theorem dX9_init_20 : decode cX9_init 20 = .ok (.aload_n 0, 1) := by decide +kernel
theorem dX9_init_21 : decode cX9_init 21 = .ok (.bipush 24, 2) := by decide +kernel
theorem dX9_init_23 : decode cX9_init 23 = .ok (.newarray .int, 2) := by decide +kernel
theorem dX9_init_25 : decode cX9_init 25 = .ok (.putfield 16, 3) := by decide +kernel
theorem dX9_init_28 : decode cX9_init 28 = .ok (.aload_n 0, 1) := by decide +kernel
theorem dX9_init_29 : decode cX9_init 29 = .ok (.bipush 24, 2) := by decide +kernel
theorem dX9_init_31 : decode cX9_init 31 = .ok (.newarray .int, 2) := by decide +kernel
theorem dX9_init_33 : decode cX9_init 33 = .ok (.putfield 19, 3) := by decide +kernel
theorem dX9_init_36 : decode cX9_init 36 = .ok (.aload_n 0, 1) := by decide +kernel
theorem dX9_init_37 : decode cX9_init 37 = .ok (.bipush 24, 2) := by decide +kernel
theorem dX9_init_39 : decode cX9_init 39 = .ok (.newarray .int, 2) := by decide +kernel
theorem dX9_init_41 : decode cX9_init 41 = .ok (.putfield 22, 3) := by decide +kernel
theorem dX9_init_44 : decode cX9_init 44 = .ok (.aload_n 0, 1) := by decide +kernel
theorem dX9_init_45 : decode cX9_init 45 = .ok (.bipush 24, 2) := by decide +kernel
theorem dX9_init_47 : decode cX9_init 47 = .ok (.newarray .int, 2) := by decide +kernel
theorem dX9_init_49 : decode cX9_init 49 = .ok (.putfield 25, 3) := by decide +kernel
theorem dX9_init_52 : decode cX9_init 52 = .ok (.aload_n 0, 1) := by decide +kernel
theorem dX9_init_53 : decode cX9_init 53 = .ok (.bipush 24, 2) := by decide +kernel
theorem dX9_init_55 : decode cX9_init 55 = .ok (.newarray .int, 2) := by decide +kernel
theorem dX9_init_57 : decode cX9_init 57 = .ok (.putfield 28, 3) := by decide +kernel
theorem dX9_init_60 : decode cX9_init 60 = .ok (.aload_n 0, 1) := by decide +kernel
theorem dX9_init_61 : decode cX9_init 61 = .ok (.bipush 24, 2) := by decide +kernel
theorem dX9_init_63 : decode cX9_init 63 = .ok (.newarray .int, 2) := by decide +kernel
theorem dX9_init_65 : decode cX9_init 65 = .ok (.putfield 31, 3) := by decide +kernel
theorem dX9_init_68 : decode cX9_init 68 = .ok (.aload_n 0, 1) := by decide +kernel
theorem dX9_init_69 : decode cX9_init 69 = .ok (.bipush 24, 2) := by decide +kernel
theorem dX9_init_71 : decode cX9_init 71 = .ok (.newarray .int, 2) := by decide +kernel
theorem dX9_init_73 : decode cX9_init 73 = .ok (.putfield 34, 3) := by decide +kernel
theorem dX9_init_76 : decode cX9_init 76 = .ok (.aload_n 0, 1) := by decide +kernel
theorem dX9_init_77 : decode cX9_init 77 = .ok (.bipush 24, 2) := by decide +kernel
theorem dX9_init_79 : decode cX9_init 79 = .ok (.newarray .int, 2) := by decide +kernel
theorem dX9_init_81 : decode cX9_init 81 = .ok (.putfield 37, 3) := by decide +kernel
theorem dX9_init_84 : decode cX9_init 84 = .ok (.aload_n 0, 1) := by decide +kernel
theorem dX9_init_85 : decode cX9_init 85 = .ok (.bipush 24, 2) := by decide +kernel
theorem dX9_init_87 : decode cX9_init 87 = .ok (.newarray .boolean, 2) := by decide +kernel
theorem dX9_init_89 : decode cX9_init 89 = .ok (.putfield 40, 3) := by decide +kernel
theorem dX9_init_92 : decode cX9_init 92 = .ok (.aload_n 0, 1) := by decide +kernel
theorem dX9_init_93 : decode cX9_init 93 = .ok (.bipush 24, 2) := by decide +kernel
theorem dX9_init_95 : decode cX9_init 95 = .ok (.bipush 16, 2) := by decide +kernel
theorem dX9_init_97 : decode cX9_init 97 = .ok (.multianewarray 44 2, 4) := by decide +kernel
theorem dX9_init_101 : decode cX9_init 101 = .ok (.putfield 46, 3) := by decide +kernel
theorem dX9_init_104 : decode cX9_init 104 = .ok (.aload_n 0, 1) := by decide +kernel
theorem dX9_init_105 : decode cX9_init 105 = .ok (.bipush 24, 2) := by decide +kernel
theorem dX9_init_107 : decode cX9_init 107 = .ok (.bipush 6, 2) := by decide +kernel
theorem dX9_init_109 : decode cX9_init 109 = .ok (.multianewarray 44 2, 4) := by decide +kernel
theorem dX9_init_113 : decode cX9_init 113 = .ok (.putfield 49, 3) := by decide +kernel
theorem dX9_init_116 : decode cX9_init 116 = .ok (.aload_n 0, 1) := by decide +kernel
theorem dX9_init_117 : decode cX9_init 117 = .ok (.bipush 24, 2) := by decide +kernel
theorem dX9_init_119 : decode cX9_init 119 = .ok (.bipush 6, 2) := by decide +kernel
theorem dX9_init_121 : decode cX9_init 121 = .ok (.multianewarray 44 2, 4) := by decide +kernel
theorem dX9_init_125 : decode cX9_init 125 = .ok (.putfield 52, 3) := by decide +kernel
theorem dX9_init_128 : decode cX9_init 128 = .ok (.aload_n 0, 1) := by decide +kernel
theorem dX9_init_129 : decode cX9_init 129 = .ok (.bipush 34, 2) := by decide +kernel
theorem dX9_init_131 : decode cX9_init 131 = .ok (.bipush 24, 2) := by decide +kernel
theorem dX9_init_133 : decode cX9_init 133 = .ok (.multianewarray 44 2, 4) := by decide +kernel
theorem dX9_init_137 : decode cX9_init 137 = .ok (.putfield 55, 3) := by decide +kernel
theorem dX9_init_140 : decode cX9_init 140 = .ok (.aload_n 0, 1) := by decide +kernel
theorem dX9_init_141 : decode cX9_init 141 = .ok (.bipush 34, 2) := by decide +kernel
theorem dX9_init_143 : decode cX9_init 143 = .ok (.newarray .int, 2) := by decide +kernel
theorem dX9_init_145 : decode cX9_init 145 = .ok (.putfield 58, 3) := by decide +kernel
theorem dX9_init_148 : decode cX9_init 148 = .ok (.aload_n 0, 1) := by decide +kernel
theorem dX9_init_149 : decode cX9_init 149 = .ok (.bipush 24, 2) := by decide +kernel
theorem dX9_init_151 : decode cX9_init 151 = .ok (.newarray .int, 2) := by decide +kernel
theorem dX9_init_153 : decode cX9_init 153 = .ok (.putfield 61, 3) := by decide +kernel
theorem dX9_init_156 : decode cX9_init 156 = .ok (.aload_n 0, 1) := by decide +kernel
theorem dX9_init_157 : decode cX9_init 157 = .ok (.bipush 6, 2) := by decide +kernel
theorem dX9_init_159 : decode cX9_init 159 = .ok (.newarray .int, 2) := by decide +kernel
theorem dX9_init_161 : decode cX9_init 161 = .ok (.putfield 64, 3) := by decide +kernel
theorem dX9_init_164 : decode cX9_init 164 = .ok (.aload_n 0, 1) := by decide +kernel
theorem dX9_init_165 : decode cX9_init 165 = .ok (.bipush 6, 2) := by decide +kernel
theorem dX9_init_167 : decode cX9_init 167 = .ok (.newarray .int, 2) := by decide +kernel
theorem dX9_init_169 : decode cX9_init 169 = .ok (.putfield 67, 3) := by decide +kernel
theorem dX9_init_172 : decode cX9_init 172 = .ok (.aload_n 0, 1) := by decide +kernel
theorem dX9_init_173 : decode cX9_init 173 = .ok (.bipush 6, 2) := by decide +kernel
theorem dX9_init_175 : decode cX9_init 175 = .ok (.newarray .int, 2) := by decide +kernel
theorem dX9_init_177 : decode cX9_init 177 = .ok (.putfield 70, 3) := by decide +kernel
theorem dX9_init_180 : decode cX9_init 180 = .ok (.aload_n 0, 1) := by decide +kernel
theorem dX9_init_181 : decode cX9_init 181 = .ok (.iconst 4, 1) := by decide +kernel
theorem dX9_init_182 : decode cX9_init 182 = .ok (.newarray .int, 2) := by decide +kernel
theorem dX9_init_184 : decode cX9_init 184 = .ok (.putfield 73, 3) := by decide +kernel
theorem dX9_init_187 : decode cX9_init 187 = .ok (.aload_n 0, 1) := by decide +kernel
theorem dX9_init_188 : decode cX9_init 188 = .ok (.iconst 4, 1) := by decide +kernel
theorem dX9_init_189 : decode cX9_init 189 = .ok (.sipush 2400, 3) := by decide +kernel
theorem dX9_init_192 : decode cX9_init 192 = .ok (.multianewarray 44 2, 4) := by decide +kernel
theorem dX9_init_196 : decode cX9_init 196 = .ok (.putfield 76, 3) := by decide +kernel
theorem dX9_init_199 : decode cX9_init 199 = .ok (.aload_n 0, 1) := by decide +kernel
theorem dX9_init_200 : decode cX9_init 200 = .ok (.iconst 4, 1) := by decide +kernel
theorem dX9_init_201 : decode cX9_init 201 = .ok (.newarray .int, 2) := by decide +kernel
theorem dX9_init_203 : decode cX9_init 203 = .ok (.putfield 79, 3) := by decide +kernel
theorem dX9_init_206 : decode cX9_init 206 = .ok (.aload_n 0, 1) := by decide +kernel
theorem dX9_init_207 : decode cX9_init 207 = .ok (.aload_n 1, 1) := by decide +kernel
theorem dX9_init_208 : decode cX9_init 208 = .ok (.putfield 82, 3) := by decide +kernel
theorem dX9_init_211 : decode cX9_init 211 = .ok (.aload_n 0, 1) := by decide +kernel
theorem dX9_init_212 : decode cX9_init 212 = .ok (.aload_n 2, 1) := by decide +kernel
theorem dX9_init_213 : decode cX9_init 213 = .ok (.putfield 86, 3) := by decide +kernel
theorem dX9_init_216 : decode cX9_init 216 = .ok (.aload_n 0, 1) := by decide +kernel
theorem dX9_init_217 : decode cX9_init 217 = .ok (.aload_n 3, 1) := by decide +kernel
theorem dX9_init_218 : decode cX9_init 218 = .ok (.putfield 89, 3) := by decide +kernel
theorem dX9_init_221 : decode cX9_init 221 = .ok (.aload_n 0, 1) := by decide +kernel
theorem dX9_init_222 : decode cX9_init 222 = .ok (.aload 4, 2) := by decide +kernel
theorem dX9_init_224 : decode cX9_init 224 = .ok (.putfield 92, 3) := by decide +kernel
theorem dX9_init_227 : decode cX9_init 227 = .ok (.aload_n 0, 1) := by decide +kernel
theorem dX9_init_228 : decode cX9_init 228 = .ok (.aload 5, 2) := by decide +kernel
theorem dX9_init_230 : decode cX9_init 230 = .ok (.putfield 95, 3) := by decide +kernel
theorem dX9_init_233 : decode cX9_init 233 = .ok (.aload_n 0, 1) := by decide +kernel
theorem dX9_init_234 : decode cX9_init 234 = .ok (.aload 6, 2) := by decide +kernel
theorem dX9_init_236 : decode cX9_init 236 = .ok (.invokevirtual 98, 3) := by decide +kernel
theorem dX9_init_239 : decode cX9_init 239 = .ok (.checkcast 99, 3) := by decide +kernel
theorem dX9_init_242 : decode cX9_init 242 = .ok (.putfield 103, 3) := by decide +kernel
theorem dX9_init_245 : decode cX9_init 245 = .ok (.aload_n 0, 1) := by decide +kernel
theorem dX9_init_246 : decode cX9_init 246 = .ok (.aload 4, 2) := by decide +kernel
theorem dX9_init_248 : decode cX9_init 248 = .ok (.invokevirtual 98, 3) := by decide +kernel
theorem dX9_init_251 : decode cX9_init 251 = .ok (.checkcast 99, 3) := by decide +kernel
theorem dX9_init_254 : decode cX9_init 254 = .ok (.putfield 106, 3) := by decide +kernel
theorem dX9_init_257 : decode cX9_init 257 = .ok (.return_, 1) := by decide +kernel
theorem dJ9_max_7cf53_0 : decode cJ9_max_7cf53 0 = .ok (.iload_n 0, 1) := by decide +kernel
theorem dJ9_max_7cf53_1 : decode cJ9_max_7cf53 1 = .ok (.iload_n 1, 1) := by decide +kernel
theorem dJ9_max_7cf53_2 : decode cJ9_max_7cf53 2 = .ok (.if_icmp .lt 7, 3) := by decide +kernel
theorem dJ9_max_7cf53_5 : decode cJ9_max_7cf53 5 = .ok (.iload_n 0, 1) := by decide +kernel
theorem dJ9_max_7cf53_6 : decode cJ9_max_7cf53 6 = .ok (.goto 4, 3) := by decide +kernel
theorem dJ9_max_7cf53_9 : decode cJ9_max_7cf53 9 = .ok (.iload_n 1, 1) := by decide +kernel
theorem dJ9_max_7cf53_10 : decode cJ9_max_7cf53 10 = .ok (.ireturn, 1) := by decide +kernel
theorem dJ9_min_7cf53_0 : decode cJ9_min_7cf53 0 = .ok (.iload_n 0, 1) := by decide +kernel
theorem dJ9_min_7cf53_1 : decode cJ9_min_7cf53 1 = .ok (.iload_n 1, 1) := by decide +kernel
theorem dJ9_min_7cf53_2 : decode cJ9_min_7cf53 2 = .ok (.if_icmp .gt 7, 3) := by decide +kernel
theorem dJ9_min_7cf53_5 : decode cJ9_min_7cf53 5 = .ok (.iload_n 0, 1) := by decide +kernel
theorem dJ9_min_7cf53_6 : decode cJ9_min_7cf53 6 = .ok (.goto 4, 3) := by decide +kernel
theorem dJ9_min_7cf53_9 : decode cJ9_min_7cf53 9 = .ok (.iload_n 1, 1) := by decide +kernel
theorem dJ9_min_7cf53_10 : decode cJ9_min_7cf53 10 = .ok (.ireturn, 1) := by decide +kernel
theorem dJxa1e45_init_da8c8_0 : decode cJxa1e45_init_da8c8 0 = .ok (.aload_n 0, 1) := by decide +kernel
theorem dJxa1e45_init_da8c8_1 : decode cJxa1e45_init_da8c8 1 = .ok (.invokespecial 1, 3) := by decide +kernel
theorem dJxa1e45_init_da8c8_4 : decode cJxa1e45_init_da8c8 4 = .ok (.return_, 1) := by decide +kernel
theorem dJxc12de_init_da8c8_0 : decode cJxc12de_init_da8c8 0 = .ok (.aload_n 0, 1) := by decide +kernel
theorem dJxc12de_init_da8c8_1 : decode cJxc12de_init_da8c8 1 = .ok (.invokespecial 1, 3) := by decide +kernel
theorem dJxc12de_init_da8c8_4 : decode cJxc12de_init_da8c8 4 = .ok (.aload_n 0, 1) := by decide +kernel
theorem dJxc12de_init_da8c8_5 : decode cJxc12de_init_da8c8 5 = .ok (.iconst 0, 1) := by decide +kernel
theorem dJxc12de_init_da8c8_6 : decode cJxc12de_init_da8c8 6 = .ok (.putfield 7, 3) := by decide +kernel
theorem dJxc12de_init_da8c8_9 : decode cJxc12de_init_da8c8 9 = .ok (.return_, 1) := by decide +kernel
theorem dJx4a65c_init_da8c8_0 : decode cJx4a65c_init_da8c8 0 = .ok (.aload_n 0, 1) := by decide +kernel
theorem dJx4a65c_init_da8c8_1 : decode cJx4a65c_init_da8c8 1 = .ok (.invokespecial 1, 3) := by decide +kernel
theorem dJx4a65c_init_da8c8_4 : decode cJx4a65c_init_da8c8 4 = .ok (.aload_n 0, 1) := by decide +kernel
theorem dJx4a65c_init_da8c8_5 : decode cJx4a65c_init_da8c8 5 = .ok (.getstatic 39, 3) := by decide +kernel
theorem dJx4a65c_init_da8c8_8 : decode cJx4a65c_init_da8c8 8 = .ok (.putfield 9, 3) := by decide +kernel
theorem dJx4a65c_init_da8c8_11 : decode cJx4a65c_init_da8c8 11 = .ok (.return_, 1) := by decide +kernel
theorem dJx4a65c_grow_92f84_0 : decode cJx4a65c_grow_92f84 0 = .ok (.aload_n 0, 1) := by decide +kernel
theorem dJx4a65c_grow_92f84_1 : decode cJx4a65c_grow_92f84 1 = .ok (.getfield 9, 3) := by decide +kernel
theorem dJx4a65c_grow_92f84_4 : decode cJx4a65c_grow_92f84 4 = .ok (.arraylength, 1) := by decide +kernel
theorem dJx4a65c_grow_92f84_5 : decode cJx4a65c_grow_92f84 5 = .ok (.istore_n 2, 1) := by decide +kernel
theorem dJx4a65c_grow_92f84_6 : decode cJx4a65c_grow_92f84 6 = .ok (.iload_n 2, 1) := by decide +kernel
theorem dJx4a65c_grow_92f84_7 : decode cJx4a65c_grow_92f84 7 = .ok (.ifCond .gt 13, 3) := by decide +kernel
theorem dJx4a65c_grow_92f84_10 : decode cJx4a65c_grow_92f84 10 = .ok (.aload_n 0, 1) := by decide +kernel
theorem dJx4a65c_grow_92f84_11 : decode cJx4a65c_grow_92f84 11 = .ok (.getfield 9, 3) := by decide +kernel
theorem dJx4a65c_grow_92f84_14 : decode cJx4a65c_grow_92f84 14 = .ok (.getstatic 39, 3) := by decide +kernel
theorem dJx4a65c_grow_92f84_17 : decode cJx4a65c_grow_92f84 17 = .ok (.if_acmp .eq 28, 3) := by decide +kernel
theorem dJx4a65c_grow_92f84_20 : decode cJx4a65c_grow_92f84 20 = .ok (.iload_n 2, 1) := by decide +kernel
theorem dJx4a65c_grow_92f84_21 : decode cJx4a65c_grow_92f84 21 = .ok (.iload_n 1, 1) := by decide +kernel
theorem dJx4a65c_grow_92f84_22 : decode cJx4a65c_grow_92f84 22 = .ok (.iload_n 2, 1) := by decide +kernel
theorem dJx4a65c_grow_92f84_23 : decode cJx4a65c_grow_92f84 23 = .ok (.isub, 1) := by decide +kernel
theorem dJx4a65c_grow_92f84_24 : decode cJx4a65c_grow_92f84 24 = .ok (.iload_n 2, 1) := by decide +kernel
theorem dJx4a65c_grow_92f84_25 : decode cJx4a65c_grow_92f84 25 = .ok (.iconst 1, 1) := by decide +kernel
theorem dJx4a65c_grow_92f84_26 : decode cJx4a65c_grow_92f84 26 = .ok (.ishr, 1) := by decide +kernel
theorem dJx4a65c_grow_92f84_27 : decode cJx4a65c_grow_92f84 27 = .ok (.invokestatic 73, 3) := by decide +kernel
theorem dJx4a65c_grow_92f84_30 : decode cJx4a65c_grow_92f84 30 = .ok (.istore_n 3, 1) := by decide +kernel
theorem dJx4a65c_grow_92f84_31 : decode cJx4a65c_grow_92f84 31 = .ok (.aload_n 0, 1) := by decide +kernel
theorem dJx4a65c_grow_92f84_32 : decode cJx4a65c_grow_92f84 32 = .ok (.aload_n 0, 1) := by decide +kernel
theorem dJx4a65c_grow_92f84_33 : decode cJx4a65c_grow_92f84 33 = .ok (.getfield 9, 3) := by decide +kernel
theorem dJx4a65c_grow_92f84_36 : decode cJx4a65c_grow_92f84 36 = .ok (.iload_n 3, 1) := by decide +kernel
theorem dJx4a65c_grow_92f84_37 : decode cJx4a65c_grow_92f84 37 = .ok (.invokestatic 66, 3) := by decide +kernel
theorem dJx4a65c_grow_92f84_40 : decode cJx4a65c_grow_92f84 40 = .ok (.dup_x1, 1) := by decide +kernel
theorem dJx4a65c_grow_92f84_41 : decode cJx4a65c_grow_92f84 41 = .ok (.putfield 9, 3) := by decide +kernel
theorem dJx4a65c_grow_92f84_44 : decode cJx4a65c_grow_92f84 44 = .ok (.areturn, 1) := by decide +kernel
theorem dJx4a65c_grow_92f84_45 : decode cJx4a65c_grow_92f84 45 = .ok (.aload_n 0, 1) := by decide +kernel
theorem dJx4a65c_grow_92f84_46 : decode cJx4a65c_grow_92f84 46 = .ok (.bipush 10, 2) := by decide +kernel
theorem dJx4a65c_grow_92f84_48 : decode cJx4a65c_grow_92f84 48 = .ok (.iload_n 1, 1) := by decide +kernel
theorem dJx4a65c_grow_92f84_49 : decode cJx4a65c_grow_92f84 49 = .ok (.invokestatic 79, 3) := by decide +kernel
theorem dJx4a65c_grow_92f84_52 : decode cJx4a65c_grow_92f84 52 = .ok (.anewarray 7, 3) := by decide +kernel
theorem dJx4a65c_grow_92f84_55 : decode cJx4a65c_grow_92f84 55 = .ok (.dup_x1, 1) := by decide +kernel
theorem dJx4a65c_grow_92f84_56 : decode cJx4a65c_grow_92f84 56 = .ok (.putfield 9, 3) := by decide +kernel
theorem dJx4a65c_grow_92f84_59 : decode cJx4a65c_grow_92f84 59 = .ok (.areturn, 1) := by decide +kernel
theorem dJx4a65c_grow_d5877_0 : decode cJx4a65c_grow_d5877 0 = .ok (.aload_n 0, 1) := by decide +kernel
theorem dJx4a65c_grow_d5877_1 : decode cJx4a65c_grow_d5877 1 = .ok (.aload_n 0, 1) := by decide +kernel
theorem dJx4a65c_grow_d5877_2 : decode cJx4a65c_grow_d5877 2 = .ok (.getfield 48, 3) := by decide +kernel
theorem dJx4a65c_grow_d5877_5 : decode cJx4a65c_grow_d5877 5 = .ok (.iconst 1, 1) := by decide +kernel
theorem dJx4a65c_grow_d5877_6 : decode cJx4a65c_grow_d5877 6 = .ok (.iadd, 1) := by decide +kernel
theorem dJx4a65c_grow_d5877_7 : decode cJx4a65c_grow_d5877 7 = .ok (.invokevirtual 69, 3) := by decide +kernel
theorem dJx4a65c_grow_d5877_10 : decode cJx4a65c_grow_d5877 10 = .ok (.areturn, 1) := by decide +kernel
theorem dJx4a65c_size_8abf5_0 : decode cJx4a65c_size_8abf5 0 = .ok (.aload_n 0, 1) := by decide +kernel
theorem dJx4a65c_size_8abf5_1 : decode cJx4a65c_size_8abf5 1 = .ok (.getfield 48, 3) := by decide +kernel
theorem dJx4a65c_size_8abf5_4 : decode cJx4a65c_size_8abf5 4 = .ok (.ireturn, 1) := by decide +kernel
theorem dJx4a65c_isEmpty_aae02_0 : decode cJx4a65c_isEmpty_aae02 0 = .ok (.aload_n 0, 1) := by decide +kernel
theorem dJx4a65c_isEmpty_aae02_1 : decode cJx4a65c_isEmpty_aae02 1 = .ok (.getfield 48, 3) := by decide +kernel
theorem dJx4a65c_isEmpty_aae02_4 : decode cJx4a65c_isEmpty_aae02 4 = .ok (.ifCond .ne 7, 3) := by decide +kernel
theorem dJx4a65c_isEmpty_aae02_7 : decode cJx4a65c_isEmpty_aae02 7 = .ok (.iconst 1, 1) := by decide +kernel
theorem dJx4a65c_isEmpty_aae02_8 : decode cJx4a65c_isEmpty_aae02 8 = .ok (.goto 4, 3) := by decide +kernel
theorem dJx4a65c_isEmpty_aae02_11 : decode cJx4a65c_isEmpty_aae02 11 = .ok (.iconst 0, 1) := by decide +kernel
theorem dJx4a65c_isEmpty_aae02_12 : decode cJx4a65c_isEmpty_aae02 12 = .ok (.ireturn, 1) := by decide +kernel
theorem dJx4a65c_elementData_915e3_0 : decode cJx4a65c_elementData_915e3 0 = .ok (.aload_n 0, 1) := by decide +kernel
theorem dJx4a65c_elementData_915e3_1 : decode cJx4a65c_elementData_915e3 1 = .ok (.getfield 9, 3) := by decide +kernel
theorem dJx4a65c_elementData_915e3_4 : decode cJx4a65c_elementData_915e3 4 = .ok (.iload_n 1, 1) := by decide +kernel
theorem dJx4a65c_elementData_915e3_5 : decode cJx4a65c_elementData_915e3 5 = .ok (.aaload, 1) := by decide +kernel
theorem dJx4a65c_elementData_915e3_6 : decode cJx4a65c_elementData_915e3 6 = .ok (.areturn, 1) := by decide +kernel
theorem dJx4a65c_get_915e3_0 : decode cJx4a65c_get_915e3 0 = .ok (.iload_n 1, 1) := by decide +kernel
theorem dJx4a65c_get_915e3_1 : decode cJx4a65c_get_915e3 1 = .ok (.aload_n 0, 1) := by decide +kernel
theorem dJx4a65c_get_915e3_2 : decode cJx4a65c_get_915e3 2 = .ok (.getfield 48, 3) := by decide +kernel
theorem dJx4a65c_get_915e3_5 : decode cJx4a65c_get_915e3 5 = .ok (.invokestatic 118, 3) := by decide +kernel
theorem dJx4a65c_get_915e3_8 : decode cJx4a65c_get_915e3 8 = .ok (.pop, 1) := by decide +kernel
theorem dJx4a65c_get_915e3_9 : decode cJx4a65c_get_915e3 9 = .ok (.aload_n 0, 1) := by decide +kernel
theorem dJx4a65c_get_915e3_10 : decode cJx4a65c_get_915e3 10 = .ok (.iload_n 1, 1) := by decide +kernel
theorem dJx4a65c_get_915e3_11 : decode cJx4a65c_get_915e3 11 = .ok (.invokevirtual 123, 3) := by decide +kernel
theorem dJx4a65c_get_915e3_14 : decode cJx4a65c_get_915e3 14 = .ok (.areturn, 1) := by decide +kernel
theorem dJx4a65c_add_72be8_0 : decode cJx4a65c_add_72be8 0 = .ok (.iload_n 3, 1) := by decide +kernel
theorem dJx4a65c_add_72be8_1 : decode cJx4a65c_add_72be8 1 = .ok (.aload_n 2, 1) := by decide +kernel
theorem dJx4a65c_add_72be8_2 : decode cJx4a65c_add_72be8 2 = .ok (.arraylength, 1) := by decide +kernel
theorem dJx4a65c_add_72be8_3 : decode cJx4a65c_add_72be8 3 = .ok (.if_icmp .ne 8, 3) := by decide +kernel
theorem dJx4a65c_add_72be8_6 : decode cJx4a65c_add_72be8 6 = .ok (.aload_n 0, 1) := by decide +kernel
theorem dJx4a65c_add_72be8_7 : decode cJx4a65c_add_72be8 7 = .ok (.invokevirtual 129, 3) := by decide +kernel
theorem dJx4a65c_add_72be8_10 : decode cJx4a65c_add_72be8 10 = .ok (.astore_n 2, 1) := by decide +kernel
theorem dJx4a65c_add_72be8_11 : decode cJx4a65c_add_72be8 11 = .ok (.aload_n 2, 1) := by decide +kernel
theorem dJx4a65c_add_72be8_12 : decode cJx4a65c_add_72be8 12 = .ok (.iload_n 3, 1) := by decide +kernel
theorem dJx4a65c_add_72be8_13 : decode cJx4a65c_add_72be8 13 = .ok (.aload_n 1, 1) := by decide +kernel
theorem dJx4a65c_add_72be8_14 : decode cJx4a65c_add_72be8 14 = .ok (.aastore, 1) := by decide +kernel
theorem dJx4a65c_add_72be8_15 : decode cJx4a65c_add_72be8 15 = .ok (.aload_n 0, 1) := by decide +kernel
theorem dJx4a65c_add_72be8_16 : decode cJx4a65c_add_72be8 16 = .ok (.iload_n 3, 1) := by decide +kernel
theorem dJx4a65c_add_72be8_17 : decode cJx4a65c_add_72be8 17 = .ok (.iconst 1, 1) := by decide +kernel
theorem dJx4a65c_add_72be8_18 : decode cJx4a65c_add_72be8 18 = .ok (.iadd, 1) := by decide +kernel
theorem dJx4a65c_add_72be8_19 : decode cJx4a65c_add_72be8 19 = .ok (.putfield 48, 3) := by decide +kernel
theorem dJx4a65c_add_72be8_22 : decode cJx4a65c_add_72be8 22 = .ok (.return_, 1) := by decide +kernel
theorem dJx4a65c_add_9ea2d_0 : decode cJx4a65c_add_9ea2d 0 = .ok (.aload_n 0, 1) := by decide +kernel
theorem dJx4a65c_add_9ea2d_1 : decode cJx4a65c_add_9ea2d 1 = .ok (.dup, 1) := by decide +kernel
theorem dJx4a65c_add_9ea2d_2 : decode cJx4a65c_add_9ea2d 2 = .ok (.getfield 63, 3) := by decide +kernel
theorem dJx4a65c_add_9ea2d_5 : decode cJx4a65c_add_9ea2d 5 = .ok (.iconst 1, 1) := by decide +kernel
theorem dJx4a65c_add_9ea2d_6 : decode cJx4a65c_add_9ea2d 6 = .ok (.iadd, 1) := by decide +kernel
theorem dJx4a65c_add_9ea2d_7 : decode cJx4a65c_add_9ea2d 7 = .ok (.putfield 63, 3) := by decide +kernel
theorem dJx4a65c_add_9ea2d_10 : decode cJx4a65c_add_9ea2d 10 = .ok (.aload_n 0, 1) := by decide +kernel
theorem dJx4a65c_add_9ea2d_11 : decode cJx4a65c_add_9ea2d 11 = .ok (.aload_n 1, 1) := by decide +kernel
theorem dJx4a65c_add_9ea2d_12 : decode cJx4a65c_add_9ea2d 12 = .ok (.aload_n 0, 1) := by decide +kernel
theorem dJx4a65c_add_9ea2d_13 : decode cJx4a65c_add_9ea2d 13 = .ok (.getfield 9, 3) := by decide +kernel
theorem dJx4a65c_add_9ea2d_16 : decode cJx4a65c_add_9ea2d 16 = .ok (.aload_n 0, 1) := by decide +kernel
theorem dJx4a65c_add_9ea2d_17 : decode cJx4a65c_add_9ea2d 17 = .ok (.getfield 48, 3) := by decide +kernel
theorem dJx4a65c_add_9ea2d_20 : decode cJx4a65c_add_9ea2d 20 = .ok (.invokevirtual 131, 3) := by decide +kernel
theorem dJx4a65c_add_9ea2d_23 : decode cJx4a65c_add_9ea2d 23 = .ok (.iconst 1, 1) := by decide +kernel
theorem dJx4a65c_add_9ea2d_24 : decode cJx4a65c_add_9ea2d 24 = .ok (.ireturn, 1) := by decide +kernel
theorem dJ7_copyOf_1904c_0 : decode cJ7_copyOf_1904c 0 = .ok (.aload_n 0, 1) := by decide +kernel
theorem dJ7_copyOf_1904c_1 : decode cJ7_copyOf_1904c 1 = .ok (.iload_n 1, 1) := by decide +kernel
theorem dJ7_copyOf_1904c_2 : decode cJ7_copyOf_1904c 2 = .ok (.aload_n 0, 1) := by decide +kernel
theorem dJ7_copyOf_1904c_3 : decode cJ7_copyOf_1904c 3 = .ok (.invokevirtual 86, 3) := by decide +kernel
theorem dJ7_copyOf_1904c_6 : decode cJ7_copyOf_1904c 6 = .ok (.invokestatic 300, 3) := by decide +kernel
theorem dJ7_copyOf_1904c_9 : decode cJ7_copyOf_1904c 9 = .ok (.areturn, 1) := by decide +kernel
theorem dJ7_copyOf_6403c_0 : decode cJ7_copyOf_6403c 0 = .ok (.aload_n 2, 1) := by decide +kernel
theorem dJ7_copyOf_6403c_1 : decode cJ7_copyOf_6403c 1 = .ok (.ldc 110, 2) := by decide +kernel
theorem dJ7_copyOf_6403c_3 : decode cJ7_copyOf_6403c 3 = .ok (.if_acmp .ne 10, 3) := by decide +kernel
theorem dJ7_copyOf_6403c_6 : decode cJ7_copyOf_6403c 6 = .ok (.iload_n 1, 1) := by decide +kernel
theorem dJ7_copyOf_6403c_7 : decode cJ7_copyOf_6403c 7 = .ok (.anewarray 2, 3) := by decide +kernel
theorem dJ7_copyOf_6403c_10 : decode cJ7_copyOf_6403c 10 = .ok (.goto 14, 3) := by decide +kernel
theorem dJ7_copyOf_6403c_13 : decode cJ7_copyOf_6403c 13 = .ok (.aload_n 2, 1) := by decide +kernel
theorem dJ7_copyOf_6403c_14 : decode cJ7_copyOf_6403c 14 = .ok (.invokevirtual 90, 3) := by decide +kernel
theorem dJ7_copyOf_6403c_17 : decode cJ7_copyOf_6403c 17 = .ok (.iload_n 1, 1) := by decide +kernel
theorem dJ7_copyOf_6403c_18 : decode cJ7_copyOf_6403c 18 = .ok (.invokestatic 95, 3) := by decide +kernel
theorem dJ7_copyOf_6403c_21 : decode cJ7_copyOf_6403c 21 = .ok (.checkcast 110, 3) := by decide +kernel
theorem dJ7_copyOf_6403c_24 : decode cJ7_copyOf_6403c 24 = .ok (.astore_n 3, 1) := by decide +kernel
theorem dJ7_copyOf_6403c_25 : decode cJ7_copyOf_6403c 25 = .ok (.aload_n 0, 1) := by decide +kernel
theorem dJ7_copyOf_6403c_26 : decode cJ7_copyOf_6403c 26 = .ok (.iconst 0, 1) := by decide +kernel
theorem dJ7_copyOf_6403c_27 : decode cJ7_copyOf_6403c 27 = .ok (.aload_n 3, 1) := by decide +kernel
theorem dJ7_copyOf_6403c_28 : decode cJ7_copyOf_6403c 28 = .ok (.iconst 0, 1) := by decide +kernel
theorem dJ7_copyOf_6403c_29 : decode cJ7_copyOf_6403c 29 = .ok (.aload_n 0, 1) := by decide +kernel
theorem dJ7_copyOf_6403c_30 : decode cJ7_copyOf_6403c 30 = .ok (.arraylength, 1) := by decide +kernel
theorem dJ7_copyOf_6403c_31 : decode cJ7_copyOf_6403c 31 = .ok (.iload_n 1, 1) := by decide +kernel
theorem dJ7_copyOf_6403c_32 : decode cJ7_copyOf_6403c 32 = .ok (.invokestatic 304, 3) := by decide +kernel
theorem dJ7_copyOf_6403c_35 : decode cJ7_copyOf_6403c 35 = .ok (.invokestatic 150, 3) := by decide +kernel
theorem dJ7_copyOf_6403c_38 : decode cJ7_copyOf_6403c 38 = .ok (.aload_n 3, 1) := by decide +kernel
theorem dJ7_copyOf_6403c_39 : decode cJ7_copyOf_6403c 39 = .ok (.areturn, 1) := by decide +kernel
theorem dJ15_checkIndex_7cf53_0 : decode cJ15_checkIndex_7cf53 0 = .ok (.iload_n 0, 1) := by decide +kernel
theorem dJ15_checkIndex_7cf53_1 : decode cJ15_checkIndex_7cf53 1 = .ok (.iload_n 1, 1) := by decide +kernel
theorem dJ15_checkIndex_7cf53_2 : decode cJ15_checkIndex_7cf53 2 = .ok (.aconst_null, 1) := by decide +kernel
theorem dJ15_checkIndex_7cf53_3 : decode cJ15_checkIndex_7cf53 3 = .ok (.invokestatic 105, 3) := by decide +kernel
theorem dJ15_checkIndex_7cf53_6 : decode cJ15_checkIndex_7cf53 6 = .ok (.ireturn, 1) := by decide +kernel
theorem dJ8_newLength_cabcc_0 : decode cJ8_newLength_cabcc 0 = .ok (.iload_n 0, 1) := by decide +kernel
theorem dJ8_newLength_cabcc_1 : decode cJ8_newLength_cabcc 1 = .ok (.iload_n 1, 1) := by decide +kernel
theorem dJ8_newLength_cabcc_2 : decode cJ8_newLength_cabcc 2 = .ok (.iload_n 2, 1) := by decide +kernel
theorem dJ8_newLength_cabcc_3 : decode cJ8_newLength_cabcc 3 = .ok (.invokestatic 194, 3) := by decide +kernel
theorem dJ8_newLength_cabcc_6 : decode cJ8_newLength_cabcc 6 = .ok (.iadd, 1) := by decide +kernel
theorem dJ8_newLength_cabcc_7 : decode cJ8_newLength_cabcc 7 = .ok (.istore_n 3, 1) := by decide +kernel
theorem dJ8_newLength_cabcc_8 : decode cJ8_newLength_cabcc 8 = .ok (.iconst 0, 1) := by decide +kernel
theorem dJ8_newLength_cabcc_9 : decode cJ8_newLength_cabcc 9 = .ok (.iload_n 3, 1) := by decide +kernel
theorem dJ8_newLength_cabcc_10 : decode cJ8_newLength_cabcc 10 = .ok (.if_icmp .ge 11, 3) := by decide +kernel
theorem dJ8_newLength_cabcc_13 : decode cJ8_newLength_cabcc 13 = .ok (.iload_n 3, 1) := by decide +kernel
theorem dJ8_newLength_cabcc_14 : decode cJ8_newLength_cabcc 14 = .ok (.ldc 200, 2) := by decide +kernel
theorem dJ8_newLength_cabcc_16 : decode cJ8_newLength_cabcc 16 = .ok (.if_icmp .gt 5, 3) := by decide +kernel
theorem dJ8_newLength_cabcc_19 : decode cJ8_newLength_cabcc 19 = .ok (.iload_n 3, 1) := by decide +kernel
theorem dJ8_newLength_cabcc_20 : decode cJ8_newLength_cabcc 20 = .ok (.ireturn, 1) := by decide +kernel
theorem dJ8_newLength_cabcc_21 : decode cJ8_newLength_cabcc 21 = .ok (.iload_n 0, 1) := by decide +kernel
theorem dJ8_newLength_cabcc_22 : decode cJ8_newLength_cabcc 22 = .ok (.iload_n 1, 1) := by decide +kernel
theorem dJ8_newLength_cabcc_23 : decode cJ8_newLength_cabcc 23 = .ok (.invokestatic 201, 3) := by decide +kernel
theorem dJ8_newLength_cabcc_26 : decode cJ8_newLength_cabcc 26 = .ok (.ireturn, 1) := by decide +kernel
theorem dJ8_hugeLength_7cf53_0 : decode cJ8_hugeLength_7cf53 0 = .ok (.iload_n 0, 1) := by decide +kernel
theorem dJ8_hugeLength_7cf53_1 : decode cJ8_hugeLength_7cf53 1 = .ok (.iload_n 1, 1) := by decide +kernel
theorem dJ8_hugeLength_7cf53_2 : decode cJ8_hugeLength_7cf53 2 = .ok (.iadd, 1) := by decide +kernel
theorem dJ8_hugeLength_7cf53_3 : decode cJ8_hugeLength_7cf53 3 = .ok (.istore_n 2, 1) := by decide +kernel
theorem dJ8_hugeLength_7cf53_4 : decode cJ8_hugeLength_7cf53 4 = .ok (.iload_n 2, 1) := by decide +kernel
theorem dJ8_hugeLength_7cf53_5 : decode cJ8_hugeLength_7cf53 5 = .ok (.ifCond .ge 44, 3) := by decide +kernel
theorem dJ8_hugeLength_7cf53_8 : decode cJ8_hugeLength_7cf53 8 = .ok (.new 204, 3) := by decide +kernel
theorem dJ8_hugeLength_7cf53_11 : decode cJ8_hugeLength_7cf53 11 = .ok (.dup, 1) := by decide +kernel
theorem dJ8_hugeLength_7cf53_12 : decode cJ8_hugeLength_7cf53 12 = .ok (.new 89, 3) := by decide +kernel
theorem dJ8_hugeLength_7cf53_15 : decode cJ8_hugeLength_7cf53 15 = .ok (.dup, 1) := by decide +kernel
theorem dJ8_hugeLength_7cf53_16 : decode cJ8_hugeLength_7cf53 16 = .ok (.invokespecial 91, 3) := by decide +kernel
theorem dJ8_hugeLength_7cf53_19 : decode cJ8_hugeLength_7cf53 19 = .ok (.ldc 206, 2) := by decide +kernel
theorem dJ8_hugeLength_7cf53_21 : decode cJ8_hugeLength_7cf53 21 = .ok (.invokevirtual 94, 3) := by decide +kernel
theorem dJ8_hugeLength_7cf53_24 : decode cJ8_hugeLength_7cf53 24 = .ok (.iload_n 0, 1) := by decide +kernel
theorem dJ8_hugeLength_7cf53_25 : decode cJ8_hugeLength_7cf53 25 = .ok (.invokevirtual 98, 3) := by decide +kernel
theorem dJ8_hugeLength_7cf53_28 : decode cJ8_hugeLength_7cf53 28 = .ok (.ldc 208, 2) := by decide +kernel
theorem dJ8_hugeLength_7cf53_30 : decode cJ8_hugeLength_7cf53 30 = .ok (.invokevirtual 94, 3) := by decide +kernel
theorem dJ8_hugeLength_7cf53_33 : decode cJ8_hugeLength_7cf53 33 = .ok (.iload_n 1, 1) := by decide +kernel
theorem dJ8_hugeLength_7cf53_34 : decode cJ8_hugeLength_7cf53 34 = .ok (.invokevirtual 98, 3) := by decide +kernel
theorem dJ8_hugeLength_7cf53_37 : decode cJ8_hugeLength_7cf53 37 = .ok (.ldc 210, 2) := by decide +kernel
theorem dJ8_hugeLength_7cf53_39 : decode cJ8_hugeLength_7cf53 39 = .ok (.invokevirtual 94, 3) := by decide +kernel
theorem dJ8_hugeLength_7cf53_42 : decode cJ8_hugeLength_7cf53 42 = .ok (.invokevirtual 101, 3) := by decide +kernel
theorem dJ8_hugeLength_7cf53_45 : decode cJ8_hugeLength_7cf53 45 = .ok (.invokespecial 212, 3) := by decide +kernel
theorem dJ8_hugeLength_7cf53_48 : decode cJ8_hugeLength_7cf53 48 = .ok (.athrow, 1) := by decide +kernel
theorem dJ8_hugeLength_7cf53_49 : decode cJ8_hugeLength_7cf53 49 = .ok (.iload_n 2, 1) := by decide +kernel
theorem dJ8_hugeLength_7cf53_50 : decode cJ8_hugeLength_7cf53 50 = .ok (.ldc 200, 2) := by decide +kernel
theorem dJ8_hugeLength_7cf53_52 : decode cJ8_hugeLength_7cf53 52 = .ok (.if_icmp .gt 6, 3) := by decide +kernel
theorem dJ8_hugeLength_7cf53_55 : decode cJ8_hugeLength_7cf53 55 = .ok (.ldc 200, 2) := by decide +kernel
theorem dJ8_hugeLength_7cf53_57 : decode cJ8_hugeLength_7cf53 57 = .ok (.ireturn, 1) := by decide +kernel
theorem dJ8_hugeLength_7cf53_58 : decode cJ8_hugeLength_7cf53 58 = .ok (.iload_n 2, 1) := by decide +kernel
theorem dJ8_hugeLength_7cf53_59 : decode cJ8_hugeLength_7cf53 59 = .ok (.ireturn, 1) := by decide +kernel
theorem dJ3_checkIndex_8e157_0 : decode cJ3_checkIndex_8e157 0 = .ok (.iload_n 0, 1) := by decide +kernel
theorem dJ3_checkIndex_8e157_1 : decode cJ3_checkIndex_8e157 1 = .ok (.ifCond .lt 8, 3) := by decide +kernel
theorem dJ3_checkIndex_8e157_4 : decode cJ3_checkIndex_8e157 4 = .ok (.iload_n 0, 1) := by decide +kernel
theorem dJ3_checkIndex_8e157_5 : decode cJ3_checkIndex_8e157 5 = .ok (.iload_n 1, 1) := by decide +kernel
theorem dJ3_checkIndex_8e157_6 : decode cJ3_checkIndex_8e157 6 = .ok (.if_icmp .lt 10, 3) := by decide +kernel
theorem dJ3_checkIndex_8e157_9 : decode cJ3_checkIndex_8e157 9 = .ok (.aload_n 2, 1) := by decide +kernel
theorem dJ3_checkIndex_8e157_10 : decode cJ3_checkIndex_8e157 10 = .ok (.iload_n 0, 1) := by decide +kernel
theorem dJ3_checkIndex_8e157_11 : decode cJ3_checkIndex_8e157 11 = .ok (.iload_n 1, 1) := by decide +kernel
theorem dJ3_checkIndex_8e157_12 : decode cJ3_checkIndex_8e157 12 = .ok (.invokestatic 95, 3) := by decide +kernel
theorem dJ3_checkIndex_8e157_15 : decode cJ3_checkIndex_8e157 15 = .ok (.athrow, 1) := by decide +kernel
theorem dJ3_checkIndex_8e157_16 : decode cJ3_checkIndex_8e157 16 = .ok (.iload_n 0, 1) := by decide +kernel
theorem dJ3_checkIndex_8e157_17 : decode cJ3_checkIndex_8e157 17 = .ok (.ireturn, 1) := by decide +kernel
theorem dL_below_0 : decode cL_below 0 = .ok (.iload_n 0, 1) := by decide +kernel
theorem dL_below_1 : decode cL_below 1 = .ok (.ldc 7, 2) := by decide +kernel
theorem dL_below_3 : decode cL_below 3 = .ok (.iand, 1) := by decide +kernel
theorem dL_below_4 : decode cL_below 4 = .ok (.iload_n 1, 1) := by decide +kernel
theorem dL_below_5 : decode cL_below 5 = .ok (.irem, 1) := by decide +kernel
theorem dL_below_6 : decode cL_below 6 = .ok (.ireturn, 1) := by decide +kernel
theorem dL_cell_0 : decode cL_cell 0 = .ok (.iload_n 1, 1) := by decide +kernel
theorem dL_cell_1 : decode cL_cell 1 = .ok (.aload_n 0, 1) := by decide +kernel
theorem dL_cell_2 : decode cL_cell 2 = .ok (.arraylength, 1) := by decide +kernel
theorem dL_cell_3 : decode cL_cell 3 = .ok (.if_icmp .ge 9, 3) := by decide +kernel
theorem dL_cell_6 : decode cL_cell 6 = .ok (.aload_n 0, 1) := by decide +kernel
theorem dL_cell_7 : decode cL_cell 7 = .ok (.iload_n 1, 1) := by decide +kernel
theorem dL_cell_8 : decode cL_cell 8 = .ok (.iaload, 1) := by decide +kernel
theorem dL_cell_9 : decode cL_cell 9 = .ok (.goto 9, 3) := by decide +kernel
theorem dL_cell_12 : decode cL_cell 12 = .ok (.ldc 8, 2) := by decide +kernel
theorem dL_cell_14 : decode cL_cell 14 = .ok (.iload_n 1, 1) := by decide +kernel
theorem dL_cell_15 : decode cL_cell 15 = .ok (.iconst 3, 1) := by decide +kernel
theorem dL_cell_16 : decode cL_cell 16 = .ok (.iadd, 1) := by decide +kernel
theorem dL_cell_17 : decode cL_cell 17 = .ok (.imul, 1) := by decide +kernel
theorem dL_cell_18 : decode cL_cell 18 = .ok (.ireturn, 1) := by decide +kernel
theorem dL_build_0 : decode cL_build 0 = .ok (.aload 4, 2) := by decide +kernel
theorem dL_build_2 : decode cL_build 2 = .ok (.arraylength, 1) := by decide +kernel
theorem dL_build_3 : decode cL_build 3 = .ok (.istore 5, 2) := by decide +kernel
theorem dL_build_5 : decode cL_build 5 = .ok (.iload 5, 2) := by decide +kernel
theorem dL_build_7 : decode cL_build 7 = .ok (.newarray .int, 2) := by decide +kernel
theorem dL_build_9 : decode cL_build 9 = .ok (.astore 6, 2) := by decide +kernel
theorem dL_build_11 : decode cL_build 11 = .ok (.iconst 0, 1) := by decide +kernel
theorem dL_build_12 : decode cL_build 12 = .ok (.istore 7, 2) := by decide +kernel
theorem dL_build_14 : decode cL_build 14 = .ok (.iload 7, 2) := by decide +kernel
theorem dL_build_16 : decode cL_build 16 = .ok (.iload 5, 2) := by decide +kernel
theorem dL_build_18 : decode cL_build 18 = .ok (.if_icmp .ge 43, 3) := by decide +kernel
theorem dL_build_21 : decode cL_build 21 = .ok (.aload 6, 2) := by decide +kernel
theorem dL_build_23 : decode cL_build 23 = .ok (.iload 7, 2) := by decide +kernel
theorem dL_build_25 : decode cL_build 25 = .ok (.iconst 1, 1) := by decide +kernel
theorem dL_build_26 : decode cL_build 26 = .ok (.aload_n 1, 1) := by decide +kernel
theorem dL_build_27 : decode cL_build 27 = .ok (.iload 7, 2) := by decide +kernel
theorem dL_build_29 : decode cL_build 29 = .ok (.invokestatic 9, 3) := by decide +kernel
theorem dL_build_32 : decode cL_build 32 = .ok (.iconst 2, 1) := by decide +kernel
theorem dL_build_33 : decode cL_build 33 = .ok (.ishr, 1) := by decide +kernel
theorem dL_build_34 : decode cL_build 34 = .ok (.iconst 3, 1) := by decide +kernel
theorem dL_build_35 : decode cL_build 35 = .ok (.invokestatic 15, 3) := by decide +kernel
theorem dL_build_38 : decode cL_build 38 = .ok (.iadd, 1) := by decide +kernel
theorem dL_build_39 : decode cL_build 39 = .ok (.iastore, 1) := by decide +kernel
theorem dL_build_40 : decode cL_build 40 = .ok (.aload_n 0, 1) := by decide +kernel
theorem dL_build_41 : decode cL_build 41 = .ok (.aload 4, 2) := by decide +kernel
theorem dL_build_43 : decode cL_build 43 = .ok (.iload 7, 2) := by decide +kernel
theorem dL_build_45 : decode cL_build 45 = .ok (.iaload, 1) := by decide +kernel
theorem dL_build_46 : decode cL_build 46 = .ok (.aload 6, 2) := by decide +kernel
theorem dL_build_48 : decode cL_build 48 = .ok (.iload 7, 2) := by decide +kernel
theorem dL_build_50 : decode cL_build 50 = .ok (.iaload, 1) := by decide +kernel
theorem dL_build_51 : decode cL_build 51 = .ok (.invokevirtual 19, 3) := by decide +kernel
theorem dL_build_54 : decode cL_build 54 = .ok (.pop, 1) := by decide +kernel
theorem dL_build_55 : decode cL_build 55 = .ok (.iinc 7 1, 3) := by decide +kernel
theorem dL_build_58 : decode cL_build 58 = .ok (.goto (-44), 3) := by decide +kernel
theorem dL_build_61 : decode cL_build 61 = .ok (.iconst 2, 1) := by decide +kernel
theorem dL_build_62 : decode cL_build 62 = .ok (.newarray .int, 2) := by decide +kernel
theorem dL_build_64 : decode cL_build 64 = .ok (.dup, 1) := by decide +kernel
theorem dL_build_65 : decode cL_build 65 = .ok (.iconst 0, 1) := by decide +kernel
theorem dL_build_66 : decode cL_build 66 = .ok (.iconst 4, 1) := by decide +kernel
theorem dL_build_67 : decode cL_build 67 = .ok (.aload_n 1, 1) := by decide +kernel
theorem dL_build_68 : decode cL_build 68 = .ok (.iconst 3, 1) := by decide +kernel
theorem dL_build_69 : decode cL_build 69 = .ok (.invokestatic 9, 3) := by decide +kernel
theorem dL_build_72 : decode cL_build 72 = .ok (.bipush 8, 2) := by decide +kernel
theorem dL_build_74 : decode cL_build 74 = .ok (.invokestatic 15, 3) := by decide +kernel
theorem dL_build_77 : decode cL_build 77 = .ok (.iadd, 1) := by decide +kernel
theorem dL_build_78 : decode cL_build 78 = .ok (.iastore, 1) := by decide +kernel
theorem dL_build_79 : decode cL_build 79 = .ok (.dup, 1) := by decide +kernel
theorem dL_build_80 : decode cL_build 80 = .ok (.iconst 1, 1) := by decide +kernel
theorem dL_build_81 : decode cL_build 81 = .ok (.iconst 3, 1) := by decide +kernel
theorem dL_build_82 : decode cL_build 82 = .ok (.iastore, 1) := by decide +kernel
theorem dL_build_83 : decode cL_build 83 = .ok (.astore 7, 2) := by decide +kernel
theorem dL_build_85 : decode cL_build 85 = .ok (.iconst 2, 1) := by decide +kernel
theorem dL_build_86 : decode cL_build 86 = .ok (.newarray .int, 2) := by decide +kernel
theorem dL_build_88 : decode cL_build 88 = .ok (.dup, 1) := by decide +kernel
theorem dL_build_89 : decode cL_build 89 = .ok (.iconst 0, 1) := by decide +kernel
theorem dL_build_90 : decode cL_build 90 = .ok (.aload_n 1, 1) := by decide +kernel
theorem dL_build_91 : decode cL_build 91 = .ok (.iconst 4, 1) := by decide +kernel
theorem dL_build_92 : decode cL_build 92 = .ok (.invokestatic 9, 3) := by decide +kernel
theorem dL_build_95 : decode cL_build 95 = .ok (.iconst 4, 1) := by decide +kernel
theorem dL_build_96 : decode cL_build 96 = .ok (.invokestatic 15, 3) := by decide +kernel
theorem dL_build_99 : decode cL_build 99 = .ok (.iastore, 1) := by decide +kernel
theorem dL_build_100 : decode cL_build 100 = .ok (.dup, 1) := by decide +kernel
theorem dL_build_101 : decode cL_build 101 = .ok (.iconst 1, 1) := by decide +kernel
theorem dL_build_102 : decode cL_build 102 = .ok (.iconst 1, 1) := by decide +kernel
theorem dL_build_103 : decode cL_build 103 = .ok (.iastore, 1) := by decide +kernel
theorem dL_build_104 : decode cL_build 104 = .ok (.astore 8, 2) := by decide +kernel
theorem dL_build_106 : decode cL_build 106 = .ok (.iconst 0, 1) := by decide +kernel
theorem dL_build_107 : decode cL_build 107 = .ok (.istore 9, 2) := by decide +kernel
theorem dL_build_109 : decode cL_build 109 = .ok (.iload 9, 2) := by decide +kernel
theorem dL_build_111 : decode cL_build 111 = .ok (.iconst 2, 1) := by decide +kernel
theorem dL_build_112 : decode cL_build 112 = .ok (.if_icmp .ge 24, 3) := by decide +kernel
theorem dL_build_115 : decode cL_build 115 = .ok (.aload_n 0, 1) := by decide +kernel
theorem dL_build_116 : decode cL_build 116 = .ok (.aload 7, 2) := by decide +kernel
theorem dL_build_118 : decode cL_build 118 = .ok (.iload 9, 2) := by decide +kernel
theorem dL_build_120 : decode cL_build 120 = .ok (.iaload, 1) := by decide +kernel
theorem dL_build_121 : decode cL_build 121 = .ok (.aload 8, 2) := by decide +kernel
theorem dL_build_123 : decode cL_build 123 = .ok (.iload 9, 2) := by decide +kernel
theorem dL_build_125 : decode cL_build 125 = .ok (.iaload, 1) := by decide +kernel
theorem dL_build_126 : decode cL_build 126 = .ok (.invokevirtual 24, 3) := by decide +kernel
theorem dL_build_129 : decode cL_build 129 = .ok (.pop, 1) := by decide +kernel
theorem dL_build_130 : decode cL_build 130 = .ok (.iinc 9 1, 3) := by decide +kernel
theorem dL_build_133 : decode cL_build 133 = .ok (.goto (-24), 3) := by decide +kernel
theorem dL_build_136 : decode cL_build 136 = .ok (.aload_n 0, 1) := by decide +kernel
theorem dL_build_137 : decode cL_build 137 = .ok (.iconst 1, 1) := by decide +kernel
theorem dL_build_138 : decode cL_build 138 = .ok (.aload_n 1, 1) := by decide +kernel
theorem dL_build_139 : decode cL_build 139 = .ok (.iconst 5, 1) := by decide +kernel
theorem dL_build_140 : decode cL_build 140 = .ok (.invokestatic 9, 3) := by decide +kernel
theorem dL_build_143 : decode cL_build 143 = .ok (.iconst 3, 1) := by decide +kernel
theorem dL_build_144 : decode cL_build 144 = .ok (.invokestatic 15, 3) := by decide +kernel
theorem dL_build_147 : decode cL_build 147 = .ok (.iadd, 1) := by decide +kernel
theorem dL_build_148 : decode cL_build 148 = .ok (.invokevirtual 27, 3) := by decide +kernel
theorem dL_build_151 : decode cL_build 151 = .ok (.pop, 1) := by decide +kernel
theorem dL_build_152 : decode cL_build 152 = .ok (.iload_n 2, 1) := by decide +kernel
theorem dL_build_153 : decode cL_build 153 = .ok (.anewarray 31, 3) := by decide +kernel
theorem dL_build_156 : decode cL_build 156 = .ok (.astore 9, 2) := by decide +kernel
theorem dL_build_158 : decode cL_build 158 = .ok (.iload_n 2, 1) := by decide +kernel
theorem dL_build_159 : decode cL_build 159 = .ok (.newarray .int, 2) := by decide +kernel
theorem dL_build_161 : decode cL_build 161 = .ok (.astore 10, 2) := by decide +kernel
theorem dL_build_163 : decode cL_build 163 = .ok (.iconst 0, 1) := by decide +kernel
theorem dL_build_164 : decode cL_build 164 = .ok (.istore 11, 2) := by decide +kernel
theorem dL_build_166 : decode cL_build 166 = .ok (.iload 11, 2) := by decide +kernel
theorem dL_build_168 : decode cL_build 168 = .ok (.iload_n 2, 1) := by decide +kernel
theorem dL_build_169 : decode cL_build 169 = .ok (.if_icmp .ge 14, 3) := by decide +kernel
theorem dL_build_172 : decode cL_build 172 = .ok (.aload_n 0, 1) := by decide +kernel
theorem dL_build_173 : decode cL_build 173 = .ok (.invokevirtual 33, 3) := by decide +kernel
theorem dL_build_176 : decode cL_build 176 = .ok (.pop, 1) := by decide +kernel
theorem dL_build_177 : decode cL_build 177 = .ok (.iinc 11 1, 3) := by decide +kernel
theorem dL_build_180 : decode cL_build 180 = .ok (.goto (-14), 3) := by decide +kernel
theorem dL_build_183 : decode cL_build 183 = .ok (.iconst 0, 1) := by decide +kernel
theorem dL_build_184 : decode cL_build 184 = .ok (.istore 11, 2) := by decide +kernel
theorem dL_build_186 : decode cL_build 186 = .ok (.iload 11, 2) := by decide +kernel
theorem dL_build_188 : decode cL_build 188 = .ok (.iload_n 2, 1) := by decide +kernel
theorem dL_build_189 : decode cL_build 189 = .ok (.if_icmp .ge 432, 3) := by decide +kernel
theorem dL_build_192 : decode cL_build 192 = .ok (.aload 9, 2) := by decide +kernel
theorem dL_build_194 : decode cL_build 194 = .ok (.iload 11, 2) := by decide +kernel
theorem dL_build_196 : decode cL_build 196 = .ok (.iconst 2, 1) := by decide +kernel
theorem dL_build_197 : decode cL_build 197 = .ok (.aload_n 1, 1) := by decide +kernel
theorem dL_build_198 : decode cL_build 198 = .ok (.bipush 6, 2) := by decide +kernel
theorem dL_build_200 : decode cL_build 200 = .ok (.iload 11, 2) := by decide +kernel
theorem dL_build_202 : decode cL_build 202 = .ok (.iadd, 1) := by decide +kernel
theorem dL_build_203 : decode cL_build 203 = .ok (.invokestatic 9, 3) := by decide +kernel
theorem dL_build_206 : decode cL_build 206 = .ok (.bipush 7, 2) := by decide +kernel
theorem dL_build_208 : decode cL_build 208 = .ok (.invokestatic 15, 3) := by decide +kernel
theorem dL_build_211 : decode cL_build 211 = .ok (.iadd, 1) := by decide +kernel
theorem dL_build_212 : decode cL_build 212 = .ok (.anewarray 37, 3) := by decide +kernel
theorem dL_build_215 : decode cL_build 215 = .ok (.aastore, 1) := by decide +kernel
theorem dL_build_216 : decode cL_build 216 = .ok (.aload 10, 2) := by decide +kernel
theorem dL_build_218 : decode cL_build 218 = .ok (.iload 11, 2) := by decide +kernel
theorem dL_build_220 : decode cL_build 220 = .ok (.aload_n 1, 1) := by decide +kernel
theorem dL_build_221 : decode cL_build 221 = .ok (.bipush 6, 2) := by decide +kernel
theorem dL_build_223 : decode cL_build 223 = .ok (.iload 11, 2) := by decide +kernel
theorem dL_build_225 : decode cL_build 225 = .ok (.iadd, 1) := by decide +kernel
theorem dL_build_226 : decode cL_build 226 = .ok (.invokestatic 9, 3) := by decide +kernel
theorem dL_build_229 : decode cL_build 229 = .ok (.iconst 4, 1) := by decide +kernel
theorem dL_build_230 : decode cL_build 230 = .ok (.ishr, 1) := by decide +kernel
theorem dL_build_231 : decode cL_build 231 = .ok (.iconst 4, 1) := by decide +kernel
theorem dL_build_232 : decode cL_build 232 = .ok (.invokestatic 15, 3) := by decide +kernel
theorem dL_build_235 : decode cL_build 235 = .ok (.iconst 1, 1) := by decide +kernel
theorem dL_build_236 : decode cL_build 236 = .ok (.isub, 1) := by decide +kernel
theorem dL_build_237 : decode cL_build 237 = .ok (.iastore, 1) := by decide +kernel
theorem dL_build_238 : decode cL_build 238 = .ok (.aload_n 0, 1) := by decide +kernel
theorem dL_build_239 : decode cL_build 239 = .ok (.iload 11, 2) := by decide +kernel
theorem dL_build_241 : decode cL_build 241 = .ok (.aload 10, 2) := by decide +kernel
theorem dL_build_243 : decode cL_build 243 = .ok (.iload 11, 2) := by decide +kernel
theorem dL_build_245 : decode cL_build 245 = .ok (.iaload, 1) := by decide +kernel
theorem dL_build_246 : decode cL_build 246 = .ok (.invokevirtual 39, 3) := by decide +kernel
theorem dL_build_249 : decode cL_build 249 = .ok (.pop, 1) := by decide +kernel
theorem dL_build_250 : decode cL_build 250 = .ok (.iconst 0, 1) := by decide +kernel
theorem dL_build_251 : decode cL_build 251 = .ok (.istore 12, 2) := by decide +kernel
theorem dL_build_253 : decode cL_build 253 = .ok (.iload 12, 2) := by decide +kernel
theorem dL_build_255 : decode cL_build 255 = .ok (.aload 9, 2) := by decide +kernel
theorem dL_build_257 : decode cL_build 257 = .ok (.iload 11, 2) := by decide +kernel
theorem dL_build_259 : decode cL_build 259 = .ok (.aaload, 1) := by decide +kernel
theorem dL_build_260 : decode cL_build 260 = .ok (.arraylength, 1) := by decide +kernel
theorem dL_build_261 : decode cL_build 261 = .ok (.if_icmp .ge 354, 3) := by decide +kernel
theorem dL_build_264 : decode cL_build 264 = .ok (.aload_n 1, 1) := by decide +kernel
theorem dL_build_265 : decode cL_build 265 = .ok (.iload 11, 2) := by decide +kernel
theorem dL_build_267 : decode cL_build 267 = .ok (.iload 12, 2) := by decide +kernel
theorem dL_build_269 : decode cL_build 269 = .ok (.iadd, 1) := by decide +kernel
theorem dL_build_270 : decode cL_build 270 = .ok (.bipush 15, 2) := by decide +kernel
theorem dL_build_272 : decode cL_build 272 = .ok (.irem, 1) := by decide +kernel
theorem dL_build_273 : decode cL_build 273 = .ok (.invokestatic 9, 3) := by decide +kernel
theorem dL_build_276 : decode cL_build 276 = .ok (.iload 12, 2) := by decide +kernel
theorem dL_build_278 : decode cL_build 278 = .ok (.iconst 5, 1) := by decide +kernel
theorem dL_build_279 : decode cL_build 279 = .ok (.irem, 1) := by decide +kernel
theorem dL_build_280 : decode cL_build 280 = .ok (.ishr, 1) := by decide +kernel
theorem dL_build_281 : decode cL_build 281 = .ok (.bipush 7, 2) := by decide +kernel
theorem dL_build_283 : decode cL_build 283 = .ok (.iload 12, 2) := by decide +kernel
theorem dL_build_285 : decode cL_build 285 = .ok (.imul, 1) := by decide +kernel
theorem dL_build_286 : decode cL_build 286 = .ok (.iadd, 1) := by decide +kernel
theorem dL_build_287 : decode cL_build 287 = .ok (.bipush 31, 2) := by decide +kernel
theorem dL_build_289 : decode cL_build 289 = .ok (.iload 11, 2) := by decide +kernel
theorem dL_build_291 : decode cL_build 291 = .ok (.imul, 1) := by decide +kernel
theorem dL_build_292 : decode cL_build 292 = .ok (.iadd, 1) := by decide +kernel
theorem dL_build_293 : decode cL_build 293 = .ok (.istore 13, 2) := by decide +kernel
theorem dL_build_295 : decode cL_build 295 = .ok (.aload_n 3, 1) := by decide +kernel
theorem dL_build_296 : decode cL_build 296 = .ok (.iload 13, 2) := by decide +kernel
theorem dL_build_298 : decode cL_build 298 = .ok (.aload_n 3, 1) := by decide +kernel
theorem dL_build_299 : decode cL_build 299 = .ok (.arraylength, 1) := by decide +kernel
theorem dL_build_300 : decode cL_build 300 = .ok (.invokestatic 15, 3) := by decide +kernel
theorem dL_build_303 : decode cL_build 303 = .ok (.iaload, 1) := by decide +kernel
theorem dL_build_304 : decode cL_build 304 = .ok (.istore 14, 2) := by decide +kernel
theorem dL_build_306 : decode cL_build 306 = .ok (.iconst 0, 1) := by decide +kernel
theorem dL_build_307 : decode cL_build 307 = .ok (.istore 15, 2) := by decide +kernel
theorem dL_build_309 : decode cL_build 309 = .ok (.iconst 0, 1) := by decide +kernel
theorem dL_build_310 : decode cL_build 310 = .ok (.istore 16, 2) := by decide +kernel
theorem dL_build_312 : decode cL_build 312 = .ok (.iload 14, 2) := by decide +kernel
theorem dL_build_314 : decode cL_build 314 = .ok (.ifCond .ne 45, 3) := by decide +kernel
theorem dL_build_317 : decode cL_build 317 = .ok (.iload 13, 2) := by decide +kernel
theorem dL_build_319 : decode cL_build 319 = .ok (.iconst 2, 1) := by decide +kernel
theorem dL_build_320 : decode cL_build 320 = .ok (.ishr, 1) := by decide +kernel
theorem dL_build_321 : decode cL_build 321 = .ok (.bipush 9, 2) := by decide +kernel
theorem dL_build_323 : decode cL_build 323 = .ok (.invokestatic 15, 3) := by decide +kernel
theorem dL_build_326 : decode cL_build 326 = .ok (.istore 15, 2) := by decide +kernel
theorem dL_build_328 : decode cL_build 328 = .ok (.iload 13, 2) := by decide +kernel
theorem dL_build_330 : decode cL_build 330 = .ok (.iconst 4, 1) := by decide +kernel
theorem dL_build_331 : decode cL_build 331 = .ok (.ishr, 1) := by decide +kernel
theorem dL_build_332 : decode cL_build 332 = .ok (.iconst 4, 1) := by decide +kernel
theorem dL_build_333 : decode cL_build 333 = .ok (.invokestatic 15, 3) := by decide +kernel
theorem dL_build_336 : decode cL_build 336 = .ok (.ifCond .ne 17, 3) := by decide +kernel
theorem dL_build_339 : decode cL_build 339 = .ok (.iconst 1, 1) := by decide +kernel
theorem dL_build_340 : decode cL_build 340 = .ok (.iload 13, 2) := by decide +kernel
theorem dL_build_342 : decode cL_build 342 = .ok (.iconst 1, 1) := by decide +kernel
theorem dL_build_343 : decode cL_build 343 = .ok (.ishr, 1) := by decide +kernel
theorem dL_build_344 : decode cL_build 344 = .ok (.bipush 6, 2) := by decide +kernel
theorem dL_build_346 : decode cL_build 346 = .ok (.invokestatic 15, 3) := by decide +kernel
theorem dL_build_349 : decode cL_build 349 = .ok (.iadd, 1) := by decide +kernel
theorem dL_build_350 : decode cL_build 350 = .ok (.goto 4, 3) := by decide +kernel
theorem dL_build_353 : decode cL_build 353 = .ok (.iconst 0, 1) := by decide +kernel
theorem dL_build_354 : decode cL_build 354 = .ok (.istore 16, 2) := by decide +kernel
theorem dL_build_356 : decode cL_build 356 = .ok (.goto 208, 3) := by decide +kernel
theorem dL_build_359 : decode cL_build 359 = .ok (.iload 14, 2) := by decide +kernel
theorem dL_build_361 : decode cL_build 361 = .ok (.iconst 3, 1) := by decide +kernel
theorem dL_build_362 : decode cL_build 362 = .ok (.if_icmp .ge 51, 3) := by decide +kernel
theorem dL_build_365 : decode cL_build 365 = .ok (.iload 13, 2) := by decide +kernel
theorem dL_build_367 : decode cL_build 367 = .ok (.iconst 3, 1) := by decide +kernel
theorem dL_build_368 : decode cL_build 368 = .ok (.ishr, 1) := by decide +kernel
theorem dL_build_369 : decode cL_build 369 = .ok (.iload 5, 2) := by decide +kernel
theorem dL_build_371 : decode cL_build 371 = .ok (.invokestatic 15, 3) := by decide +kernel
theorem dL_build_374 : decode cL_build 374 = .ok (.istore 15, 2) := by decide +kernel
theorem dL_build_376 : decode cL_build 376 = .ok (.iconst 1, 1) := by decide +kernel
theorem dL_build_377 : decode cL_build 377 = .ok (.iload 13, 2) := by decide +kernel
theorem dL_build_379 : decode cL_build 379 = .ok (.iconst 2, 1) := by decide +kernel
theorem dL_build_380 : decode cL_build 380 = .ok (.ishr, 1) := by decide +kernel
theorem dL_build_381 : decode cL_build 381 = .ok (.aload 6, 2) := by decide +kernel
theorem dL_build_383 : decode cL_build 383 = .ok (.iload 15, 2) := by decide +kernel
theorem dL_build_385 : decode cL_build 385 = .ok (.iaload, 1) := by decide +kernel
theorem dL_build_386 : decode cL_build 386 = .ok (.iload 13, 2) := by decide +kernel
theorem dL_build_388 : decode cL_build 388 = .ok (.iconst 5, 1) := by decide +kernel
theorem dL_build_389 : decode cL_build 389 = .ok (.ishr, 1) := by decide +kernel
theorem dL_build_390 : decode cL_build 390 = .ok (.bipush 9, 2) := by decide +kernel
theorem dL_build_392 : decode cL_build 392 = .ok (.invokestatic 15, 3) := by decide +kernel
theorem dL_build_395 : decode cL_build 395 = .ok (.ifCond .ne 7, 3) := by decide +kernel
theorem dL_build_398 : decode cL_build 398 = .ok (.iconst 1, 1) := by decide +kernel
theorem dL_build_399 : decode cL_build 399 = .ok (.goto 4, 3) := by decide +kernel
theorem dL_build_402 : decode cL_build 402 = .ok (.iconst 0, 1) := by decide +kernel
theorem dL_build_403 : decode cL_build 403 = .ok (.iadd, 1) := by decide +kernel
theorem dL_build_404 : decode cL_build 404 = .ok (.invokestatic 15, 3) := by decide +kernel
theorem dL_build_407 : decode cL_build 407 = .ok (.iadd, 1) := by decide +kernel
theorem dL_build_408 : decode cL_build 408 = .ok (.istore 16, 2) := by decide +kernel
theorem dL_build_410 : decode cL_build 410 = .ok (.goto 154, 3) := by decide +kernel
theorem dL_build_413 : decode cL_build 413 = .ok (.iload 14, 2) := by decide +kernel
theorem dL_build_415 : decode cL_build 415 = .ok (.iconst 5, 1) := by decide +kernel
theorem dL_build_416 : decode cL_build 416 = .ok (.if_icmp .lt 10, 3) := by decide +kernel
theorem dL_build_419 : decode cL_build 419 = .ok (.iload 14, 2) := by decide +kernel
theorem dL_build_421 : decode cL_build 421 = .ok (.bipush 13, 2) := by decide +kernel
theorem dL_build_423 : decode cL_build 423 = .ok (.if_icmp .ne 37, 3) := by decide +kernel
theorem dL_build_426 : decode cL_build 426 = .ok (.iload 13, 2) := by decide +kernel
theorem dL_build_428 : decode cL_build 428 = .ok (.iconst 3, 1) := by decide +kernel
theorem dL_build_429 : decode cL_build 429 = .ok (.ishr, 1) := by decide +kernel
theorem dL_build_430 : decode cL_build 430 = .ok (.iconst 2, 1) := by decide +kernel
theorem dL_build_431 : decode cL_build 431 = .ok (.invokestatic 15, 3) := by decide +kernel
theorem dL_build_434 : decode cL_build 434 = .ok (.istore 15, 2) := by decide +kernel
theorem dL_build_436 : decode cL_build 436 = .ok (.iconst 1, 1) := by decide +kernel
theorem dL_build_437 : decode cL_build 437 = .ok (.iload 13, 2) := by decide +kernel
theorem dL_build_439 : decode cL_build 439 = .ok (.iconst 4, 1) := by decide +kernel
theorem dL_build_440 : decode cL_build 440 = .ok (.ishr, 1) := by decide +kernel
theorem dL_build_441 : decode cL_build 441 = .ok (.iload 15, 2) := by decide +kernel
theorem dL_build_443 : decode cL_build 443 = .ok (.ifCond .ne 7, 3) := by decide +kernel
theorem dL_build_446 : decode cL_build 446 = .ok (.iconst 4, 1) := by decide +kernel
theorem dL_build_447 : decode cL_build 447 = .ok (.goto 4, 3) := by decide +kernel
theorem dL_build_450 : decode cL_build 450 = .ok (.iconst 3, 1) := by decide +kernel
theorem dL_build_451 : decode cL_build 451 = .ok (.invokestatic 15, 3) := by decide +kernel
theorem dL_build_454 : decode cL_build 454 = .ok (.iadd, 1) := by decide +kernel
theorem dL_build_455 : decode cL_build 455 = .ok (.istore 16, 2) := by decide +kernel
theorem dL_build_457 : decode cL_build 457 = .ok (.goto 107, 3) := by decide +kernel
theorem dL_build_460 : decode cL_build 460 = .ok (.iload 14, 2) := by decide +kernel
theorem dL_build_462 : decode cL_build 462 = .ok (.bipush 7, 2) := by decide +kernel
theorem dL_build_464 : decode cL_build 464 = .ok (.if_icmp .ge 16, 3) := by decide +kernel
theorem dL_build_467 : decode cL_build 467 = .ok (.iload 13, 2) := by decide +kernel
theorem dL_build_469 : decode cL_build 469 = .ok (.iconst 3, 1) := by decide +kernel
theorem dL_build_470 : decode cL_build 470 = .ok (.ishr, 1) := by decide +kernel
theorem dL_build_471 : decode cL_build 471 = .ok (.iconst 2, 1) := by decide +kernel
theorem dL_build_472 : decode cL_build 472 = .ok (.invokestatic 15, 3) := by decide +kernel
theorem dL_build_475 : decode cL_build 475 = .ok (.istore 15, 2) := by decide +kernel
theorem dL_build_477 : decode cL_build 477 = .ok (.goto 87, 3) := by decide +kernel
theorem dL_build_480 : decode cL_build 480 = .ok (.iload 14, 2) := by decide +kernel
theorem dL_build_482 : decode cL_build 482 = .ok (.bipush 7, 2) := by decide +kernel
theorem dL_build_484 : decode cL_build 484 = .ok (.if_icmp .ne 27, 3) := by decide +kernel
theorem dL_build_487 : decode cL_build 487 = .ok (.iload 13, 2) := by decide +kernel
theorem dL_build_489 : decode cL_build 489 = .ok (.iconst 3, 1) := by decide +kernel
theorem dL_build_490 : decode cL_build 490 = .ok (.ishr, 1) := by decide +kernel
theorem dL_build_491 : decode cL_build 491 = .ok (.iload_n 2, 1) := by decide +kernel
theorem dL_build_492 : decode cL_build 492 = .ok (.invokestatic 15, 3) := by decide +kernel
theorem dL_build_495 : decode cL_build 495 = .ok (.istore 15, 2) := by decide +kernel
theorem dL_build_497 : decode cL_build 497 = .ok (.iload 13, 2) := by decide +kernel
theorem dL_build_499 : decode cL_build 499 = .ok (.iconst 4, 1) := by decide +kernel
theorem dL_build_500 : decode cL_build 500 = .ok (.ishr, 1) := by decide +kernel
theorem dL_build_501 : decode cL_build 501 = .ok (.bipush 10, 2) := by decide +kernel
theorem dL_build_503 : decode cL_build 503 = .ok (.invokestatic 15, 3) := by decide +kernel
theorem dL_build_506 : decode cL_build 506 = .ok (.istore 16, 2) := by decide +kernel
theorem dL_build_508 : decode cL_build 508 = .ok (.goto 56, 3) := by decide +kernel
theorem dL_build_511 : decode cL_build 511 = .ok (.iload 14, 2) := by decide +kernel
theorem dL_build_513 : decode cL_build 513 = .ok (.bipush 10, 2) := by decide +kernel
theorem dL_build_515 : decode cL_build 515 = .ok (.if_icmp .ne 31, 3) := by decide +kernel
theorem dL_build_518 : decode cL_build 518 = .ok (.iload 13, 2) := by decide +kernel
theorem dL_build_520 : decode cL_build 520 = .ok (.iconst 3, 1) := by decide +kernel
theorem dL_build_521 : decode cL_build 521 = .ok (.ishr, 1) := by decide +kernel
theorem dL_build_522 : decode cL_build 522 = .ok (.aload 9, 2) := by decide +kernel
theorem dL_build_524 : decode cL_build 524 = .ok (.iload 11, 2) := by decide +kernel
theorem dL_build_526 : decode cL_build 526 = .ok (.aaload, 1) := by decide +kernel
theorem dL_build_527 : decode cL_build 527 = .ok (.arraylength, 1) := by decide +kernel
theorem dL_build_528 : decode cL_build 528 = .ok (.invokestatic 15, 3) := by decide +kernel
theorem dL_build_531 : decode cL_build 531 = .ok (.istore 15, 2) := by decide +kernel
theorem dL_build_533 : decode cL_build 533 = .ok (.iload 13, 2) := by decide +kernel
theorem dL_build_535 : decode cL_build 535 = .ok (.iconst 5, 1) := by decide +kernel
theorem dL_build_536 : decode cL_build 536 = .ok (.ishr, 1) := by decide +kernel
theorem dL_build_537 : decode cL_build 537 = .ok (.iconst 4, 1) := by decide +kernel
theorem dL_build_538 : decode cL_build 538 = .ok (.invokestatic 15, 3) := by decide +kernel
theorem dL_build_541 : decode cL_build 541 = .ok (.istore 16, 2) := by decide +kernel
theorem dL_build_543 : decode cL_build 543 = .ok (.goto 21, 3) := by decide +kernel
theorem dL_build_546 : decode cL_build 546 = .ok (.iload 14, 2) := by decide +kernel
theorem dL_build_548 : decode cL_build 548 = .ok (.bipush 12, 2) := by decide +kernel
theorem dL_build_550 : decode cL_build 550 = .ok (.if_icmp .ne 14, 3) := by decide +kernel
theorem dL_build_553 : decode cL_build 553 = .ok (.iload 13, 2) := by decide +kernel
theorem dL_build_555 : decode cL_build 555 = .ok (.iconst 3, 1) := by decide +kernel
theorem dL_build_556 : decode cL_build 556 = .ok (.ishr, 1) := by decide +kernel
theorem dL_build_557 : decode cL_build 557 = .ok (.bipush 10, 2) := by decide +kernel
theorem dL_build_559 : decode cL_build 559 = .ok (.invokestatic 15, 3) := by decide +kernel
theorem dL_build_562 : decode cL_build 562 = .ok (.istore 15, 2) := by decide +kernel
theorem dL_build_564 : decode cL_build 564 = .ok (.aload 9, 2) := by decide +kernel
theorem dL_build_566 : decode cL_build 566 = .ok (.iload 11, 2) := by decide +kernel
theorem dL_build_568 : decode cL_build 568 = .ok (.aaload, 1) := by decide +kernel
theorem dL_build_569 : decode cL_build 569 = .ok (.iload 12, 2) := by decide +kernel
theorem dL_build_571 : decode cL_build 571 = .ok (.iconst 3, 1) := by decide +kernel
theorem dL_build_572 : decode cL_build 572 = .ok (.newarray .int, 2) := by decide +kernel
theorem dL_build_574 : decode cL_build 574 = .ok (.dup, 1) := by decide +kernel
theorem dL_build_575 : decode cL_build 575 = .ok (.iconst 0, 1) := by decide +kernel
theorem dL_build_576 : decode cL_build 576 = .ok (.iload 14, 2) := by decide +kernel
theorem dL_build_578 : decode cL_build 578 = .ok (.iastore, 1) := by decide +kernel
theorem dL_build_579 : decode cL_build 579 = .ok (.dup, 1) := by decide +kernel
theorem dL_build_580 : decode cL_build 580 = .ok (.iconst 1, 1) := by decide +kernel
theorem dL_build_581 : decode cL_build 581 = .ok (.iload 15, 2) := by decide +kernel
theorem dL_build_583 : decode cL_build 583 = .ok (.iastore, 1) := by decide +kernel
theorem dL_build_584 : decode cL_build 584 = .ok (.dup, 1) := by decide +kernel
theorem dL_build_585 : decode cL_build 585 = .ok (.iconst 2, 1) := by decide +kernel
theorem dL_build_586 : decode cL_build 586 = .ok (.iload 16, 2) := by decide +kernel
theorem dL_build_588 : decode cL_build 588 = .ok (.iastore, 1) := by decide +kernel
theorem dL_build_589 : decode cL_build 589 = .ok (.aastore, 1) := by decide +kernel
theorem dL_build_590 : decode cL_build 590 = .ok (.aload_n 0, 1) := by decide +kernel
theorem dL_build_591 : decode cL_build 591 = .ok (.iload 11, 2) := by decide +kernel
theorem dL_build_593 : decode cL_build 593 = .ok (.iload 14, 2) := by decide +kernel
theorem dL_build_595 : decode cL_build 595 = .ok (.iload 15, 2) := by decide +kernel
theorem dL_build_597 : decode cL_build 597 = .ok (.iload 16, 2) := by decide +kernel
theorem dL_build_599 : decode cL_build 599 = .ok (.invokevirtual 42, 3) := by decide +kernel
theorem dL_build_602 : decode cL_build 602 = .ok (.iload 12, 2) := by decide +kernel
theorem dL_build_604 : decode cL_build 604 = .ok (.if_icmp .eq 5, 3) := by decide +kernel
theorem dL_build_607 : decode cL_build 607 = .ok (.aconst_null, 1) := by decide +kernel
theorem dL_build_608 : decode cL_build 608 = .ok (.areturn, 1) := by decide +kernel
theorem dL_build_609 : decode cL_build 609 = .ok (.iinc 12 1, 3) := by decide +kernel
theorem dL_build_612 : decode cL_build 612 = .ok (.goto (-359), 3) := by decide +kernel
theorem dL_build_615 : decode cL_build 615 = .ok (.iinc 11 1, 3) := by decide +kernel
theorem dL_build_618 : decode cL_build 618 = .ok (.goto (-432), 3) := by decide +kernel
theorem dL_build_621 : decode cL_build 621 = .ok (.new 46, 3) := by decide +kernel
theorem dL_build_624 : decode cL_build 624 = .ok (.dup, 1) := by decide +kernel
theorem dL_build_625 : decode cL_build 625 = .ok (.aload 9, 2) := by decide +kernel
theorem dL_build_627 : decode cL_build 627 = .ok (.aload 10, 2) := by decide +kernel
theorem dL_build_629 : decode cL_build 629 = .ok (.aload 4, 2) := by decide +kernel
theorem dL_build_631 : decode cL_build 631 = .ok (.aload 6, 2) := by decide +kernel
theorem dL_build_633 : decode cL_build 633 = .ok (.aload 7, 2) := by decide +kernel
theorem dL_build_635 : decode cL_build 635 = .ok (.aload 8, 2) := by decide +kernel
theorem dL_build_637 : decode cL_build 637 = .ok (.invokespecial 48, 3) := by decide +kernel
theorem dL_build_640 : decode cL_build 640 = .ok (.areturn, 1) := by decide +kernel
theorem dL_isSound_0 : decode cL_isSound 0 = .ok (.bipush 8, 2) := by decide +kernel
theorem dL_isSound_2 : decode cL_isSound 2 = .ok (.newarray .int, 2) := by decide +kernel
theorem dL_isSound_4 : decode cL_isSound 4 = .ok (.astore_n 3, 1) := by decide +kernel
theorem dL_isSound_5 : decode cL_isSound 5 = .ok (.iconst 0, 1) := by decide +kernel
theorem dL_isSound_6 : decode cL_isSound 6 = .ok (.istore 4, 2) := by decide +kernel
theorem dL_isSound_8 : decode cL_isSound 8 = .ok (.iload 4, 2) := by decide +kernel
end
section
theorem dL_isSound_10 : decode cL_isSound 10 = .ok (.aload_n 0, 1) := by decide +kernel
theorem dL_isSound_11 : decode cL_isSound 11 = .ok (.invokevirtual 51, 3) := by decide +kernel
theorem dL_isSound_14 : decode cL_isSound 14 = .ok (.if_icmp .ge 131, 3) := by decide +kernel
theorem dL_isSound_17 : decode cL_isSound 17 = .ok (.aload_n 0, 1) := by decide +kernel
theorem dL_isSound_18 : decode cL_isSound 18 = .ok (.iload 4, 2) := by decide +kernel
theorem dL_isSound_20 : decode cL_isSound 20 = .ok (.invokevirtual 54, 3) := by decide +kernel
theorem dL_isSound_23 : decode cL_isSound 23 = .ok (.istore 5, 2) := by decide +kernel
theorem dL_isSound_25 : decode cL_isSound 25 = .ok (.aload_n 3, 1) := by decide +kernel
theorem dL_isSound_26 : decode cL_isSound 26 = .ok (.iload 5, 2) := by decide +kernel
theorem dL_isSound_28 : decode cL_isSound 28 = .ok (.dup2, 1) := by decide +kernel
theorem dL_isSound_29 : decode cL_isSound 29 = .ok (.iaload, 1) := by decide +kernel
theorem dL_isSound_30 : decode cL_isSound 30 = .ok (.iconst 1, 1) := by decide +kernel
theorem dL_isSound_31 : decode cL_isSound 31 = .ok (.iadd, 1) := by decide +kernel
theorem dL_isSound_32 : decode cL_isSound 32 = .ok (.iastore, 1) := by decide +kernel
theorem dL_isSound_33 : decode cL_isSound 33 = .ok (.aload_n 0, 1) := by decide +kernel
theorem dL_isSound_34 : decode cL_isSound 34 = .ok (.iload 4, 2) := by decide +kernel
theorem dL_isSound_36 : decode cL_isSound 36 = .ok (.invokevirtual 57, 3) := by decide +kernel
theorem dL_isSound_39 : decode cL_isSound 39 = .ok (.ifCond .lt 7, 3) := by decide +kernel
theorem dL_isSound_42 : decode cL_isSound 42 = .ok (.iconst 1, 1) := by decide +kernel
theorem dL_isSound_43 : decode cL_isSound 43 = .ok (.goto 4, 3) := by decide +kernel
theorem dL_isSound_46 : decode cL_isSound 46 = .ok (.iconst 0, 1) := by decide +kernel
theorem dL_isSound_47 : decode cL_isSound 47 = .ok (.iload 5, 2) := by decide +kernel
theorem dL_isSound_49 : decode cL_isSound 49 = .ok (.iconst 2, 1) := by decide +kernel
theorem dL_isSound_50 : decode cL_isSound 50 = .ok (.if_icmp .ge 7, 3) := by decide +kernel
theorem dL_isSound_53 : decode cL_isSound 53 = .ok (.iconst 1, 1) := by decide +kernel
theorem dL_isSound_54 : decode cL_isSound 54 = .ok (.goto 4, 3) := by decide +kernel
theorem dL_isSound_57 : decode cL_isSound 57 = .ok (.iconst 0, 1) := by decide +kernel
theorem dL_isSound_58 : decode cL_isSound 58 = .ok (.if_icmp .ne 44, 3) := by decide +kernel
theorem dL_isSound_61 : decode cL_isSound 61 = .ok (.iload 5, 2) := by decide +kernel
theorem dL_isSound_63 : decode cL_isSound 63 = .ok (.iconst 2, 1) := by decide +kernel
theorem dL_isSound_64 : decode cL_isSound 64 = .ok (.if_icmp .ge 16, 3) := by decide +kernel
theorem dL_isSound_67 : decode cL_isSound 67 = .ok (.aload_n 0, 1) := by decide +kernel
theorem dL_isSound_68 : decode cL_isSound 68 = .ok (.iload 4, 2) := by decide +kernel
theorem dL_isSound_70 : decode cL_isSound 70 = .ok (.invokevirtual 57, 3) := by decide +kernel
theorem dL_isSound_73 : decode cL_isSound 73 = .ok (.aload_n 0, 1) := by decide +kernel
theorem dL_isSound_74 : decode cL_isSound 74 = .ok (.invokevirtual 60, 3) := by decide +kernel
theorem dL_isSound_77 : decode cL_isSound 77 = .ok (.if_icmp .lt 25, 3) := by decide +kernel
theorem dL_isSound_80 : decode cL_isSound 80 = .ok (.aload_n 0, 1) := by decide +kernel
theorem dL_isSound_81 : decode cL_isSound 81 = .ok (.iload 4, 2) := by decide +kernel
theorem dL_isSound_83 : decode cL_isSound 83 = .ok (.invokevirtual 63, 3) := by decide +kernel
theorem dL_isSound_86 : decode cL_isSound 86 = .ok (.ifCond .lt 16, 3) := by decide +kernel
theorem dL_isSound_89 : decode cL_isSound 89 = .ok (.aload_n 0, 1) := by decide +kernel
theorem dL_isSound_90 : decode cL_isSound 90 = .ok (.iload 4, 2) := by decide +kernel
theorem dL_isSound_92 : decode cL_isSound 92 = .ok (.invokevirtual 66, 3) := by decide +kernel
theorem dL_isSound_95 : decode cL_isSound 95 = .ok (.aload_n 0, 1) := by decide +kernel
theorem dL_isSound_96 : decode cL_isSound 96 = .ok (.invokevirtual 60, 3) := by decide +kernel
theorem dL_isSound_99 : decode cL_isSound 99 = .ok (.if_icmp .le 5, 3) := by decide +kernel
theorem dL_isSound_102 : decode cL_isSound 102 = .ok (.iconst 0, 1) := by decide +kernel
theorem dL_isSound_103 : decode cL_isSound 103 = .ok (.ireturn, 1) := by decide +kernel
theorem dL_isSound_104 : decode cL_isSound 104 = .ok (.iconst 0, 1) := by decide +kernel
theorem dL_isSound_105 : decode cL_isSound 105 = .ok (.istore 6, 2) := by decide +kernel
theorem dL_isSound_107 : decode cL_isSound 107 = .ok (.iload 5, 2) := by decide +kernel
theorem dL_isSound_109 : decode cL_isSound 109 = .ok (.iconst 4, 1) := by decide +kernel
theorem dL_isSound_110 : decode cL_isSound 110 = .ok (.if_icmp .le 29, 3) := by decide +kernel
theorem dL_isSound_113 : decode cL_isSound 113 = .ok (.iload 6, 2) := by decide +kernel
theorem dL_isSound_115 : decode cL_isSound 115 = .ok (.aload_n 1, 1) := by decide +kernel
theorem dL_isSound_116 : decode cL_isSound 116 = .ok (.arraylength, 1) := by decide +kernel
theorem dL_isSound_117 : decode cL_isSound 117 = .ok (.if_icmp .ge 22, 3) := by decide +kernel
theorem dL_isSound_120 : decode cL_isSound 120 = .ok (.aload_n 0, 1) := by decide +kernel
theorem dL_isSound_121 : decode cL_isSound 121 = .ok (.iload 4, 2) := by decide +kernel
theorem dL_isSound_123 : decode cL_isSound 123 = .ok (.iload 6, 2) := by decide +kernel
theorem dL_isSound_125 : decode cL_isSound 125 = .ok (.invokevirtual 69, 3) := by decide +kernel
theorem dL_isSound_128 : decode cL_isSound 128 = .ok (.ifCond .eq 5, 3) := by decide +kernel
theorem dL_isSound_131 : decode cL_isSound 131 = .ok (.iconst 0, 1) := by decide +kernel
theorem dL_isSound_132 : decode cL_isSound 132 = .ok (.ireturn, 1) := by decide +kernel
theorem dL_isSound_133 : decode cL_isSound 133 = .ok (.iinc 6 1, 3) := by decide +kernel
theorem dL_isSound_136 : decode cL_isSound 136 = .ok (.goto (-29), 3) := by decide +kernel
theorem dL_isSound_139 : decode cL_isSound 139 = .ok (.iinc 4 1, 3) := by decide +kernel
theorem dL_isSound_142 : decode cL_isSound 142 = .ok (.goto (-134), 3) := by decide +kernel
theorem dL_isSound_145 : decode cL_isSound 145 = .ok (.aload_n 0, 1) := by decide +kernel
theorem dL_isSound_146 : decode cL_isSound 146 = .ok (.invokevirtual 72, 3) := by decide +kernel
theorem dL_isSound_149 : decode cL_isSound 149 = .ok (.aload_n 3, 1) := by decide +kernel
theorem dL_isSound_150 : decode cL_isSound 150 = .ok (.iconst 0, 1) := by decide +kernel
theorem dL_isSound_151 : decode cL_isSound 151 = .ok (.iaload, 1) := by decide +kernel
theorem dL_isSound_152 : decode cL_isSound 152 = .ok (.aload_n 3, 1) := by decide +kernel
theorem dL_isSound_153 : decode cL_isSound 153 = .ok (.iconst 1, 1) := by decide +kernel
theorem dL_isSound_154 : decode cL_isSound 154 = .ok (.iaload, 1) := by decide +kernel
theorem dL_isSound_155 : decode cL_isSound 155 = .ok (.iadd, 1) := by decide +kernel
theorem dL_isSound_156 : decode cL_isSound 156 = .ok (.if_icmp .ne 30, 3) := by decide +kernel
theorem dL_isSound_159 : decode cL_isSound 159 = .ok (.aload_n 0, 1) := by decide +kernel
theorem dL_isSound_160 : decode cL_isSound 160 = .ok (.invokevirtual 75, 3) := by decide +kernel
theorem dL_isSound_163 : decode cL_isSound 163 = .ok (.ifCond .ge 7, 3) := by decide +kernel
theorem dL_isSound_166 : decode cL_isSound 166 = .ok (.iconst 1, 1) := by decide +kernel
theorem dL_isSound_167 : decode cL_isSound 167 = .ok (.goto 4, 3) := by decide +kernel
theorem dL_isSound_170 : decode cL_isSound 170 = .ok (.iconst 0, 1) := by decide +kernel
theorem dL_isSound_171 : decode cL_isSound 171 = .ok (.aload_n 0, 1) := by decide +kernel
theorem dL_isSound_172 : decode cL_isSound 172 = .ok (.invokevirtual 72, 3) := by decide +kernel
theorem dL_isSound_175 : decode cL_isSound 175 = .ok (.ifCond .ne 7, 3) := by decide +kernel
theorem dL_isSound_178 : decode cL_isSound 178 = .ok (.iconst 1, 1) := by decide +kernel
theorem dL_isSound_179 : decode cL_isSound 179 = .ok (.goto 4, 3) := by decide +kernel
theorem dL_isSound_182 : decode cL_isSound 182 = .ok (.iconst 0, 1) := by decide +kernel
theorem dL_isSound_183 : decode cL_isSound 183 = .ok (.if_icmp .eq 5, 3) := by decide +kernel
theorem dL_isSound_186 : decode cL_isSound 186 = .ok (.iconst 0, 1) := by decide +kernel
theorem dL_isSound_187 : decode cL_isSound 187 = .ok (.ireturn, 1) := by decide +kernel
theorem dL_isSound_188 : decode cL_isSound 188 = .ok (.iconst 0, 1) := by decide +kernel
theorem dL_isSound_189 : decode cL_isSound 189 = .ok (.istore 4, 2) := by decide +kernel
theorem dL_isSound_191 : decode cL_isSound 191 = .ok (.iconst 0, 1) := by decide +kernel
theorem dL_isSound_192 : decode cL_isSound 192 = .ok (.istore 5, 2) := by decide +kernel
theorem dL_isSound_194 : decode cL_isSound 194 = .ok (.iload 5, 2) := by decide +kernel
theorem dL_isSound_196 : decode cL_isSound 196 = .ok (.aload_n 1, 1) := by decide +kernel
theorem dL_isSound_197 : decode cL_isSound 197 = .ok (.arraylength, 1) := by decide +kernel
theorem dL_isSound_198 : decode cL_isSound 198 = .ok (.if_icmp .ge 172, 3) := by decide +kernel
theorem dL_isSound_201 : decode cL_isSound 201 = .ok (.iconst 0, 1) := by decide +kernel
theorem dL_isSound_202 : decode cL_isSound 202 = .ok (.istore 6, 2) := by decide +kernel
theorem dL_isSound_204 : decode cL_isSound 204 = .ok (.iconst 0, 1) := by decide +kernel
theorem dL_isSound_205 : decode cL_isSound 205 = .ok (.istore 7, 2) := by decide +kernel
theorem dL_isSound_207 : decode cL_isSound 207 = .ok (.iload 7, 2) := by decide +kernel
theorem dL_isSound_209 : decode cL_isSound 209 = .ok (.aload_n 0, 1) := by decide +kernel
theorem dL_isSound_210 : decode cL_isSound 210 = .ok (.invokevirtual 51, 3) := by decide +kernel
theorem dL_isSound_213 : decode cL_isSound 213 = .ok (.if_icmp .ge 22, 3) := by decide +kernel
theorem dL_isSound_216 : decode cL_isSound 216 = .ok (.iload 6, 2) := by decide +kernel
theorem dL_isSound_218 : decode cL_isSound 218 = .ok (.aload_n 0, 1) := by decide +kernel
theorem dL_isSound_219 : decode cL_isSound 219 = .ok (.iload 7, 2) := by decide +kernel
theorem dL_isSound_221 : decode cL_isSound 221 = .ok (.iload 5, 2) := by decide +kernel
theorem dL_isSound_223 : decode cL_isSound 223 = .ok (.invokevirtual 69, 3) := by decide +kernel
theorem dL_isSound_226 : decode cL_isSound 226 = .ok (.iadd, 1) := by decide +kernel
theorem dL_isSound_227 : decode cL_isSound 227 = .ok (.istore 6, 2) := by decide +kernel
theorem dL_isSound_229 : decode cL_isSound 229 = .ok (.iinc 7 1, 3) := by decide +kernel
theorem dL_isSound_232 : decode cL_isSound 232 = .ok (.goto (-25), 3) := by decide +kernel
theorem dL_isSound_235 : decode cL_isSound 235 = .ok (.iload 6, 2) := by decide +kernel
theorem dL_isSound_237 : decode cL_isSound 237 = .ok (.aload_n 0, 1) := by decide +kernel
theorem dL_isSound_238 : decode cL_isSound 238 = .ok (.iload 5, 2) := by decide +kernel
theorem dL_isSound_240 : decode cL_isSound 240 = .ok (.invokevirtual 78, 3) := by decide +kernel
theorem dL_isSound_243 : decode cL_isSound 243 = .ok (.iadd, 1) := by decide +kernel
theorem dL_isSound_244 : decode cL_isSound 244 = .ok (.aload_n 1, 1) := by decide +kernel
theorem dL_isSound_245 : decode cL_isSound 245 = .ok (.iload 5, 2) := by decide +kernel
theorem dL_isSound_247 : decode cL_isSound 247 = .ok (.iaload, 1) := by decide +kernel
theorem dL_isSound_248 : decode cL_isSound 248 = .ok (.if_icmp .ne 65, 3) := by decide +kernel
theorem dL_isSound_251 : decode cL_isSound 251 = .ok (.aload_n 0, 1) := by decide +kernel
theorem dL_isSound_252 : decode cL_isSound 252 = .ok (.iload 5, 2) := by decide +kernel
theorem dL_isSound_254 : decode cL_isSound 254 = .ok (.invokevirtual 78, 3) := by decide +kernel
theorem dL_isSound_257 : decode cL_isSound 257 = .ok (.ifCond .lt 56, 3) := by decide +kernel
theorem dL_isSound_260 : decode cL_isSound 260 = .ok (.aload_n 0, 1) := by decide +kernel
theorem dL_isSound_261 : decode cL_isSound 261 = .ok (.iload 5, 2) := by decide +kernel
theorem dL_isSound_263 : decode cL_isSound 263 = .ok (.invokevirtual 81, 3) := by decide +kernel
theorem dL_isSound_266 : decode cL_isSound 266 = .ok (.aload_n 0, 1) := by decide +kernel
theorem dL_isSound_267 : decode cL_isSound 267 = .ok (.invokevirtual 60, 3) := by decide +kernel
theorem dL_isSound_270 : decode cL_isSound 270 = .ok (.aload_n 1, 1) := by decide +kernel
theorem dL_isSound_271 : decode cL_isSound 271 = .ok (.iload 5, 2) := by decide +kernel
theorem dL_isSound_273 : decode cL_isSound 273 = .ok (.iaload, 1) := by decide +kernel
theorem dL_isSound_274 : decode cL_isSound 274 = .ok (.imul, 1) := by decide +kernel
theorem dL_isSound_275 : decode cL_isSound 275 = .ok (.if_icmp .gt 38, 3) := by decide +kernel
theorem dL_isSound_278 : decode cL_isSound 278 = .ok (.aload_n 0, 1) := by decide +kernel
theorem dL_isSound_279 : decode cL_isSound 279 = .ok (.iload 5, 2) := by decide +kernel
theorem dL_isSound_281 : decode cL_isSound 281 = .ok (.invokevirtual 84, 3) := by decide +kernel
theorem dL_isSound_284 : decode cL_isSound 284 = .ok (.aload_n 0, 1) := by decide +kernel
theorem dL_isSound_285 : decode cL_isSound 285 = .ok (.iload 5, 2) := by decide +kernel
theorem dL_isSound_287 : decode cL_isSound 287 = .ok (.invokevirtual 87, 3) := by decide +kernel
theorem dL_isSound_290 : decode cL_isSound 290 = .ok (.if_icmp .lt 23, 3) := by decide +kernel
theorem dL_isSound_293 : decode cL_isSound 293 = .ok (.aload_n 0, 1) := by decide +kernel
theorem dL_isSound_294 : decode cL_isSound 294 = .ok (.iload 5, 2) := by decide +kernel
theorem dL_isSound_296 : decode cL_isSound 296 = .ok (.invokevirtual 90, 3) := by decide +kernel
theorem dL_isSound_299 : decode cL_isSound 299 = .ok (.aload_n 0, 1) := by decide +kernel
theorem dL_isSound_300 : decode cL_isSound 300 = .ok (.invokevirtual 60, 3) := by decide +kernel
theorem dL_isSound_303 : decode cL_isSound 303 = .ok (.aload_n 0, 1) := by decide +kernel
theorem dL_isSound_304 : decode cL_isSound 304 = .ok (.iload 5, 2) := by decide +kernel
theorem dL_isSound_306 : decode cL_isSound 306 = .ok (.invokevirtual 84, 3) := by decide +kernel
theorem dL_isSound_309 : decode cL_isSound 309 = .ok (.imul, 1) := by decide +kernel
theorem dL_isSound_310 : decode cL_isSound 310 = .ok (.if_icmp .le 5, 3) := by decide +kernel
theorem dL_isSound_313 : decode cL_isSound 313 = .ok (.iconst 0, 1) := by decide +kernel
theorem dL_isSound_314 : decode cL_isSound 314 = .ok (.ireturn, 1) := by decide +kernel
theorem dL_isSound_315 : decode cL_isSound 315 = .ok (.iconst 0, 1) := by decide +kernel
theorem dL_isSound_316 : decode cL_isSound 316 = .ok (.istore 7, 2) := by decide +kernel
theorem dL_isSound_318 : decode cL_isSound 318 = .ok (.iload 7, 2) := by decide +kernel
theorem dL_isSound_320 : decode cL_isSound 320 = .ok (.aload_n 0, 1) := by decide +kernel
theorem dL_isSound_321 : decode cL_isSound 321 = .ok (.iload 5, 2) := by decide +kernel
theorem dL_isSound_323 : decode cL_isSound 323 = .ok (.invokevirtual 87, 3) := by decide +kernel
theorem dL_isSound_326 : decode cL_isSound 326 = .ok (.if_icmp .ge 27, 3) := by decide +kernel
theorem dL_isSound_329 : decode cL_isSound 329 = .ok (.aload_n 0, 1) := by decide +kernel
theorem dL_isSound_330 : decode cL_isSound 330 = .ok (.aload_n 0, 1) := by decide +kernel
theorem dL_isSound_331 : decode cL_isSound 331 = .ok (.iload 5, 2) := by decide +kernel
theorem dL_isSound_333 : decode cL_isSound 333 = .ok (.iload 7, 2) := by decide +kernel
theorem dL_isSound_335 : decode cL_isSound 335 = .ok (.invokevirtual 93, 3) := by decide +kernel
theorem dL_isSound_338 : decode cL_isSound 338 = .ok (.invokevirtual 54, 3) := by decide +kernel
theorem dL_isSound_341 : decode cL_isSound 341 = .ok (.iconst 2, 1) := by decide +kernel
theorem dL_isSound_342 : decode cL_isSound 342 = .ok (.if_icmp .eq 5, 3) := by decide +kernel
theorem dL_isSound_345 : decode cL_isSound 345 = .ok (.iconst 0, 1) := by decide +kernel
theorem dL_isSound_346 : decode cL_isSound 346 = .ok (.ireturn, 1) := by decide +kernel
theorem dL_isSound_347 : decode cL_isSound 347 = .ok (.iinc 7 1, 3) := by decide +kernel
theorem dL_isSound_350 : decode cL_isSound 350 = .ok (.goto (-32), 3) := by decide +kernel
theorem dL_isSound_353 : decode cL_isSound 353 = .ok (.iload 4, 2) := by decide +kernel
theorem dL_isSound_355 : decode cL_isSound 355 = .ok (.aload_n 0, 1) := by decide +kernel
theorem dL_isSound_356 : decode cL_isSound 356 = .ok (.iload 5, 2) := by decide +kernel
theorem dL_isSound_358 : decode cL_isSound 358 = .ok (.invokevirtual 87, 3) := by decide +kernel
theorem dL_isSound_361 : decode cL_isSound 361 = .ok (.iadd, 1) := by decide +kernel
theorem dL_isSound_362 : decode cL_isSound 362 = .ok (.istore 4, 2) := by decide +kernel
theorem dL_isSound_364 : decode cL_isSound 364 = .ok (.iinc 5 1, 3) := by decide +kernel
theorem dL_isSound_367 : decode cL_isSound 367 = .ok (.goto (-173), 3) := by decide +kernel
theorem dL_isSound_370 : decode cL_isSound 370 = .ok (.iconst 0, 1) := by decide +kernel
theorem dL_isSound_371 : decode cL_isSound 371 = .ok (.istore 5, 2) := by decide +kernel
theorem dL_isSound_373 : decode cL_isSound 373 = .ok (.iconst 0, 1) := by decide +kernel
theorem dL_isSound_374 : decode cL_isSound 374 = .ok (.istore 6, 2) := by decide +kernel
theorem dL_isSound_376 : decode cL_isSound 376 = .ok (.iload 6, 2) := by decide +kernel
theorem dL_isSound_378 : decode cL_isSound 378 = .ok (.aload_n 2, 1) := by decide +kernel
theorem dL_isSound_379 : decode cL_isSound 379 = .ok (.arraylength, 1) := by decide +kernel
theorem dL_isSound_380 : decode cL_isSound 380 = .ok (.if_icmp .ge 71, 3) := by decide +kernel
theorem dL_isSound_383 : decode cL_isSound 383 = .ok (.aload_n 0, 1) := by decide +kernel
theorem dL_isSound_384 : decode cL_isSound 384 = .ok (.iload 6, 2) := by decide +kernel
theorem dL_isSound_386 : decode cL_isSound 386 = .ok (.invokevirtual 96, 3) := by decide +kernel
theorem dL_isSound_389 : decode cL_isSound 389 = .ok (.ifCond .lt 34, 3) := by decide +kernel
theorem dL_isSound_392 : decode cL_isSound 392 = .ok (.aload_n 0, 1) := by decide +kernel
theorem dL_isSound_393 : decode cL_isSound 393 = .ok (.iload 6, 2) := by decide +kernel
theorem dL_isSound_395 : decode cL_isSound 395 = .ok (.invokevirtual 96, 3) := by decide +kernel
theorem dL_isSound_398 : decode cL_isSound 398 = .ok (.aload_n 2, 1) := by decide +kernel
theorem dL_isSound_399 : decode cL_isSound 399 = .ok (.iload 6, 2) := by decide +kernel
theorem dL_isSound_401 : decode cL_isSound 401 = .ok (.iaload, 1) := by decide +kernel
theorem dL_isSound_402 : decode cL_isSound 402 = .ok (.if_icmp .gt 21, 3) := by decide +kernel
theorem dL_isSound_405 : decode cL_isSound 405 = .ok (.aload_n 0, 1) := by decide +kernel
theorem dL_isSound_406 : decode cL_isSound 406 = .ok (.iload 6, 2) := by decide +kernel
theorem dL_isSound_408 : decode cL_isSound 408 = .ok (.invokevirtual 99, 3) := by decide +kernel
theorem dL_isSound_411 : decode cL_isSound 411 = .ok (.aload_n 0, 1) := by decide +kernel
theorem dL_isSound_412 : decode cL_isSound 412 = .ok (.invokevirtual 60, 3) := by decide +kernel
theorem dL_isSound_415 : decode cL_isSound 415 = .ok (.aload_n 2, 1) := by decide +kernel
theorem dL_isSound_416 : decode cL_isSound 416 = .ok (.iload 6, 2) := by decide +kernel
theorem dL_isSound_418 : decode cL_isSound 418 = .ok (.iaload, 1) := by decide +kernel
theorem dL_isSound_419 : decode cL_isSound 419 = .ok (.imul, 1) := by decide +kernel
theorem dL_isSound_420 : decode cL_isSound 420 = .ok (.if_icmp .le 5, 3) := by decide +kernel
theorem dL_isSound_423 : decode cL_isSound 423 = .ok (.iconst 0, 1) := by decide +kernel
theorem dL_isSound_424 : decode cL_isSound 424 = .ok (.ireturn, 1) := by decide +kernel
theorem dL_isSound_425 : decode cL_isSound 425 = .ok (.iload 5, 2) := by decide +kernel
theorem dL_isSound_427 : decode cL_isSound 427 = .ok (.aload_n 0, 1) := by decide +kernel
theorem dL_isSound_428 : decode cL_isSound 428 = .ok (.iload 6, 2) := by decide +kernel
theorem dL_isSound_430 : decode cL_isSound 430 = .ok (.iconst 0, 1) := by decide +kernel
theorem dL_isSound_431 : decode cL_isSound 431 = .ok (.invokevirtual 102, 3) := by decide +kernel
theorem dL_isSound_434 : decode cL_isSound 434 = .ok (.aload_n 0, 1) := by decide +kernel
theorem dL_isSound_435 : decode cL_isSound 435 = .ok (.iload 6, 2) := by decide +kernel
theorem dL_isSound_437 : decode cL_isSound 437 = .ok (.iconst 1, 1) := by decide +kernel
theorem dL_isSound_438 : decode cL_isSound 438 = .ok (.invokevirtual 102, 3) := by decide +kernel
theorem dL_isSound_441 : decode cL_isSound 441 = .ok (.iadd, 1) := by decide +kernel
theorem dL_isSound_442 : decode cL_isSound 442 = .ok (.iadd, 1) := by decide +kernel
theorem dL_isSound_443 : decode cL_isSound 443 = .ok (.istore 5, 2) := by decide +kernel
theorem dL_isSound_445 : decode cL_isSound 445 = .ok (.iinc 6 1, 3) := by decide +kernel
theorem dL_isSound_448 : decode cL_isSound 448 = .ok (.goto (-72), 3) := by decide +kernel
theorem dL_isSound_451 : decode cL_isSound 451 = .ok (.iconst 0, 1) := by decide +kernel
theorem dL_isSound_452 : decode cL_isSound 452 = .ok (.istore 6, 2) := by decide +kernel
theorem dL_isSound_454 : decode cL_isSound 454 = .ok (.iconst 0, 1) := by decide +kernel
theorem dL_isSound_455 : decode cL_isSound 455 = .ok (.istore 7, 2) := by decide +kernel
theorem dL_isSound_457 : decode cL_isSound 457 = .ok (.iload 7, 2) := by decide +kernel
theorem dL_isSound_459 : decode cL_isSound 459 = .ok (.iconst 4, 1) := by decide +kernel
theorem dL_isSound_460 : decode cL_isSound 460 = .ok (.if_icmp .ge 20, 3) := by decide +kernel
theorem dL_isSound_463 : decode cL_isSound 463 = .ok (.iload 6, 2) := by decide +kernel
theorem dL_isSound_465 : decode cL_isSound 465 = .ok (.aload_n 0, 1) := by decide +kernel
theorem dL_isSound_466 : decode cL_isSound 466 = .ok (.iload 7, 2) := by decide +kernel
theorem dL_isSound_468 : decode cL_isSound 468 = .ok (.invokevirtual 106, 3) := by decide +kernel
theorem dL_isSound_471 : decode cL_isSound 471 = .ok (.iadd, 1) := by decide +kernel
theorem dL_isSound_472 : decode cL_isSound 472 = .ok (.istore 6, 2) := by decide +kernel
theorem dL_isSound_474 : decode cL_isSound 474 = .ok (.iinc 7 1, 3) := by decide +kernel
theorem dL_isSound_477 : decode cL_isSound 477 = .ok (.goto (-20), 3) := by decide +kernel
theorem dL_isSound_480 : decode cL_isSound 480 = .ok (.iload 4, 2) := by decide +kernel
theorem dL_isSound_482 : decode cL_isSound 482 = .ok (.aload_n 3, 1) := by decide +kernel
theorem dL_isSound_483 : decode cL_isSound 483 = .ok (.iconst 2, 1) := by decide +kernel
theorem dL_isSound_484 : decode cL_isSound 484 = .ok (.iaload, 1) := by decide +kernel
theorem dL_isSound_485 : decode cL_isSound 485 = .ok (.if_icmp .ne 23, 3) := by decide +kernel
theorem dL_isSound_488 : decode cL_isSound 488 = .ok (.iload 5, 2) := by decide +kernel
theorem dL_isSound_490 : decode cL_isSound 490 = .ok (.aload_n 3, 1) := by decide +kernel
theorem dL_isSound_491 : decode cL_isSound 491 = .ok (.iconst 3, 1) := by decide +kernel
theorem dL_isSound_492 : decode cL_isSound 492 = .ok (.iaload, 1) := by decide +kernel
theorem dL_isSound_493 : decode cL_isSound 493 = .ok (.if_icmp .ne 15, 3) := by decide +kernel
theorem dL_isSound_496 : decode cL_isSound 496 = .ok (.iload 6, 2) := by decide +kernel
theorem dL_isSound_498 : decode cL_isSound 498 = .ok (.aload_n 3, 1) := by decide +kernel
theorem dL_isSound_499 : decode cL_isSound 499 = .ok (.iconst 4, 1) := by decide +kernel
theorem dL_isSound_500 : decode cL_isSound 500 = .ok (.iaload, 1) := by decide +kernel
theorem dL_isSound_501 : decode cL_isSound 501 = .ok (.if_icmp .ne 7, 3) := by decide +kernel
theorem dL_isSound_504 : decode cL_isSound 504 = .ok (.iconst 1, 1) := by decide +kernel
theorem dL_isSound_505 : decode cL_isSound 505 = .ok (.goto 4, 3) := by decide +kernel
theorem dL_isSound_508 : decode cL_isSound 508 = .ok (.iconst 0, 1) := by decide +kernel
theorem dL_isSound_509 : decode cL_isSound 509 = .ok (.ireturn, 1) := by decide +kernel
theorem dL_law_0 : decode cL_law 0 = .ok (.new 20, 3) := by decide +kernel
theorem dL_law_3 : decode cL_law 3 = .ok (.dup, 1) := by decide +kernel
theorem dL_law_4 : decode cL_law 4 = .ok (.invokespecial 109, 3) := by decide +kernel
theorem dL_law_7 : decode cL_law 7 = .ok (.astore_n 1, 1) := by decide +kernel
theorem dL_law_8 : decode cL_law 8 = .ok (.iconst 1, 1) := by decide +kernel
theorem dL_law_9 : decode cL_law 9 = .ok (.aload_n 0, 1) := by decide +kernel
theorem dL_law_10 : decode cL_law 10 = .ok (.bipush 14, 2) := by decide +kernel
theorem dL_law_12 : decode cL_law 12 = .ok (.invokestatic 9, 3) := by decide +kernel
theorem dL_law_15 : decode cL_law 15 = .ok (.iconst 3, 1) := by decide +kernel
theorem dL_law_16 : decode cL_law 16 = .ok (.invokestatic 15, 3) := by decide +kernel
theorem dL_law_19 : decode cL_law 19 = .ok (.iadd, 1) := by decide +kernel
theorem dL_law_20 : decode cL_law 20 = .ok (.istore_n 2, 1) := by decide +kernel
theorem dL_law_21 : decode cL_law 21 = .ok (.aload_n 1, 1) := by decide +kernel
theorem dL_law_22 : decode cL_law 22 = .ok (.aload_n 0, 1) := by decide +kernel
theorem dL_law_23 : decode cL_law 23 = .ok (.iload_n 2, 1) := by decide +kernel
theorem dL_law_24 : decode cL_law 24 = .ok (.bipush 17, 2) := by decide +kernel
theorem dL_law_26 : decode cL_law 26 = .ok (.newarray .int, 2) := by decide +kernel
theorem dL_law_28 : decode cL_law 28 = .ok (.dup, 1) := by decide +kernel
theorem dL_law_29 : decode cL_law 29 = .ok (.iconst 0, 1) := by decide +kernel
theorem dL_law_30 : decode cL_law 30 = .ok (.iconst 0, 1) := by decide +kernel
theorem dL_law_31 : decode cL_law 31 = .ok (.iastore, 1) := by decide +kernel
theorem dL_law_32 : decode cL_law 32 = .ok (.dup, 1) := by decide +kernel
theorem dL_law_33 : decode cL_law 33 = .ok (.iconst 1, 1) := by decide +kernel
theorem dL_law_34 : decode cL_law 34 = .ok (.iconst 0, 1) := by decide +kernel
theorem dL_law_35 : decode cL_law 35 = .ok (.iastore, 1) := by decide +kernel
theorem dL_law_36 : decode cL_law 36 = .ok (.dup, 1) := by decide +kernel
theorem dL_law_37 : decode cL_law 37 = .ok (.iconst 2, 1) := by decide +kernel
theorem dL_law_38 : decode cL_law 38 = .ok (.iconst 0, 1) := by decide +kernel
theorem dL_law_39 : decode cL_law 39 = .ok (.iastore, 1) := by decide +kernel
theorem dL_law_40 : decode cL_law 40 = .ok (.dup, 1) := by decide +kernel
theorem dL_law_41 : decode cL_law 41 = .ok (.iconst 3, 1) := by decide +kernel
theorem dL_law_42 : decode cL_law 42 = .ok (.iconst 1, 1) := by decide +kernel
theorem dL_law_43 : decode cL_law 43 = .ok (.iastore, 1) := by decide +kernel
theorem dL_law_44 : decode cL_law 44 = .ok (.dup, 1) := by decide +kernel
theorem dL_law_45 : decode cL_law 45 = .ok (.iconst 4, 1) := by decide +kernel
theorem dL_law_46 : decode cL_law 46 = .ok (.iconst 1, 1) := by decide +kernel
theorem dL_law_47 : decode cL_law 47 = .ok (.iastore, 1) := by decide +kernel
theorem dL_law_48 : decode cL_law 48 = .ok (.dup, 1) := by decide +kernel
theorem dL_law_49 : decode cL_law 49 = .ok (.iconst 5, 1) := by decide +kernel
theorem dL_law_50 : decode cL_law 50 = .ok (.iconst 2, 1) := by decide +kernel
theorem dL_law_51 : decode cL_law 51 = .ok (.iastore, 1) := by decide +kernel
theorem dL_law_52 : decode cL_law 52 = .ok (.dup, 1) := by decide +kernel
theorem dL_law_53 : decode cL_law 53 = .ok (.bipush 6, 2) := by decide +kernel
theorem dL_law_55 : decode cL_law 55 = .ok (.iconst 3, 1) := by decide +kernel
theorem dL_law_56 : decode cL_law 56 = .ok (.iastore, 1) := by decide +kernel
theorem dL_law_57 : decode cL_law 57 = .ok (.dup, 1) := by decide +kernel
theorem dL_law_58 : decode cL_law 58 = .ok (.bipush 7, 2) := by decide +kernel
theorem dL_law_60 : decode cL_law 60 = .ok (.iconst 4, 1) := by decide +kernel
theorem dL_law_61 : decode cL_law 61 = .ok (.iastore, 1) := by decide +kernel
theorem dL_law_62 : decode cL_law 62 = .ok (.dup, 1) := by decide +kernel
theorem dL_law_63 : decode cL_law 63 = .ok (.bipush 8, 2) := by decide +kernel
theorem dL_law_65 : decode cL_law 65 = .ok (.iconst 5, 1) := by decide +kernel
theorem dL_law_66 : decode cL_law 66 = .ok (.iastore, 1) := by decide +kernel
theorem dL_law_67 : decode cL_law 67 = .ok (.dup, 1) := by decide +kernel
theorem dL_law_68 : decode cL_law 68 = .ok (.bipush 9, 2) := by decide +kernel
theorem dL_law_70 : decode cL_law 70 = .ok (.bipush 6, 2) := by decide +kernel
theorem dL_law_72 : decode cL_law 72 = .ok (.iastore, 1) := by decide +kernel
theorem dL_law_73 : decode cL_law 73 = .ok (.dup, 1) := by decide +kernel
theorem dL_law_74 : decode cL_law 74 = .ok (.bipush 10, 2) := by decide +kernel
theorem dL_law_76 : decode cL_law 76 = .ok (.bipush 7, 2) := by decide +kernel
theorem dL_law_78 : decode cL_law 78 = .ok (.iastore, 1) := by decide +kernel
theorem dL_law_79 : decode cL_law 79 = .ok (.dup, 1) := by decide +kernel
theorem dL_law_80 : decode cL_law 80 = .ok (.bipush 11, 2) := by decide +kernel
theorem dL_law_82 : decode cL_law 82 = .ok (.bipush 8, 2) := by decide +kernel
theorem dL_law_84 : decode cL_law 84 = .ok (.iastore, 1) := by decide +kernel
theorem dL_law_85 : decode cL_law 85 = .ok (.dup, 1) := by decide +kernel
theorem dL_law_86 : decode cL_law 86 = .ok (.bipush 12, 2) := by decide +kernel
theorem dL_law_88 : decode cL_law 88 = .ok (.bipush 9, 2) := by decide +kernel
theorem dL_law_90 : decode cL_law 90 = .ok (.iastore, 1) := by decide +kernel
theorem dL_law_91 : decode cL_law 91 = .ok (.dup, 1) := by decide +kernel
theorem dL_law_92 : decode cL_law 92 = .ok (.bipush 13, 2) := by decide +kernel
theorem dL_law_94 : decode cL_law 94 = .ok (.bipush 10, 2) := by decide +kernel
theorem dL_law_96 : decode cL_law 96 = .ok (.iastore, 1) := by decide +kernel
theorem dL_law_97 : decode cL_law 97 = .ok (.dup, 1) := by decide +kernel
theorem dL_law_98 : decode cL_law 98 = .ok (.bipush 14, 2) := by decide +kernel
theorem dL_law_100 : decode cL_law 100 = .ok (.bipush 11, 2) := by decide +kernel
theorem dL_law_102 : decode cL_law 102 = .ok (.iastore, 1) := by decide +kernel
theorem dL_law_103 : decode cL_law 103 = .ok (.dup, 1) := by decide +kernel
theorem dL_law_104 : decode cL_law 104 = .ok (.bipush 15, 2) := by decide +kernel
theorem dL_law_106 : decode cL_law 106 = .ok (.bipush 12, 2) := by decide +kernel
theorem dL_law_108 : decode cL_law 108 = .ok (.iastore, 1) := by decide +kernel
theorem dL_law_109 : decode cL_law 109 = .ok (.dup, 1) := by decide +kernel
theorem dL_law_110 : decode cL_law 110 = .ok (.bipush 16, 2) := by decide +kernel
theorem dL_law_112 : decode cL_law 112 = .ok (.bipush 13, 2) := by decide +kernel
theorem dL_law_114 : decode cL_law 114 = .ok (.iastore, 1) := by decide +kernel
theorem dL_law_115 : decode cL_law 115 = .ok (.iconst 2, 1) := by decide +kernel
theorem dL_law_116 : decode cL_law 116 = .ok (.newarray .int, 2) := by decide +kernel
theorem dL_law_118 : decode cL_law 118 = .ok (.dup, 1) := by decide +kernel
theorem dL_law_119 : decode cL_law 119 = .ok (.iconst 0, 1) := by decide +kernel
theorem dL_law_120 : decode cL_law 120 = .ok (.aload_n 0, 1) := by decide +kernel
theorem dL_law_121 : decode cL_law 121 = .ok (.bipush 12, 2) := by decide +kernel
theorem dL_law_123 : decode cL_law 123 = .ok (.invokestatic 9, 3) := by decide +kernel
theorem dL_law_126 : decode cL_law 126 = .ok (.iconst 3, 1) := by decide +kernel
theorem dL_law_127 : decode cL_law 127 = .ok (.invokestatic 15, 3) := by decide +kernel
theorem dL_law_130 : decode cL_law 130 = .ok (.iastore, 1) := by decide +kernel
theorem dL_law_131 : decode cL_law 131 = .ok (.dup, 1) := by decide +kernel
theorem dL_law_132 : decode cL_law 132 = .ok (.iconst 1, 1) := by decide +kernel
theorem dL_law_133 : decode cL_law 133 = .ok (.iconst 2, 1) := by decide +kernel
theorem dL_law_134 : decode cL_law 134 = .ok (.iastore, 1) := by decide +kernel
theorem dL_law_135 : decode cL_law 135 = .ok (.invokestatic 110, 3) := by decide +kernel
theorem dL_law_138 : decode cL_law 138 = .ok (.astore_n 3, 1) := by decide +kernel
theorem dL_law_139 : decode cL_law 139 = .ok (.aload_n 3, 1) := by decide +kernel
theorem dL_law_140 : decode cL_law 140 = .ok (.ifnonnull 5, 3) := by decide +kernel
theorem dL_law_143 : decode cL_law 143 = .ok (.iconst 0, 1) := by decide +kernel
theorem dL_law_144 : decode cL_law 144 = .ok (.ireturn, 1) := by decide +kernel
theorem dL_law_145 : decode cL_law 145 = .ok (.aload_n 1, 1) := by decide +kernel
theorem dL_law_146 : decode cL_law 146 = .ok (.aload_n 0, 1) := by decide +kernel
theorem dL_law_147 : decode cL_law 147 = .ok (.bipush 13, 2) := by decide +kernel
theorem dL_law_149 : decode cL_law 149 = .ok (.invokestatic 9, 3) := by decide +kernel
theorem dL_law_152 : decode cL_law 152 = .ok (.sipush 10000, 3) := by decide +kernel
theorem dL_law_155 : decode cL_law 155 = .ok (.invokestatic 15, 3) := by decide +kernel
theorem dL_law_158 : decode cL_law 158 = .ok (.invokevirtual 114, 3) := by decide +kernel
theorem dL_law_161 : decode cL_law 161 = .ok (.pop, 1) := by decide +kernel
theorem dL_law_162 : decode cL_law 162 = .ok (.iconst 0, 1) := by decide +kernel
theorem dL_law_163 : decode cL_law 163 = .ok (.istore 4, 2) := by decide +kernel
theorem dL_law_165 : decode cL_law 165 = .ok (.iload 4, 2) := by decide +kernel
theorem dL_law_167 : decode cL_law 167 = .ok (.bipush 7, 2) := by decide +kernel
theorem dL_law_169 : decode cL_law 169 = .ok (.if_icmp .ge 59, 3) := by decide +kernel
theorem dL_law_172 : decode cL_law 172 = .ok (.aload_n 1, 1) := by decide +kernel
theorem dL_law_173 : decode cL_law 173 = .ok (.aload_n 0, 1) := by decide +kernel
theorem dL_law_174 : decode cL_law 174 = .ok (.bipush 6, 2) := by decide +kernel
theorem dL_law_176 : decode cL_law 176 = .ok (.iload 4, 2) := by decide +kernel
theorem dL_law_178 : decode cL_law 178 = .ok (.bipush 9, 2) := by decide +kernel
theorem dL_law_180 : decode cL_law 180 = .ok (.irem, 1) := by decide +kernel
theorem dL_law_181 : decode cL_law 181 = .ok (.iadd, 1) := by decide +kernel
theorem dL_law_182 : decode cL_law 182 = .ok (.invokestatic 9, 3) := by decide +kernel
theorem dL_law_185 : decode cL_law 185 = .ok (.iload 4, 2) := by decide +kernel
theorem dL_law_187 : decode cL_law 187 = .ok (.iconst 4, 1) := by decide +kernel
theorem dL_law_188 : decode cL_law 188 = .ok (.irem, 1) := by decide +kernel
theorem dL_law_189 : decode cL_law 189 = .ok (.ishr, 1) := by decide +kernel
theorem dL_law_190 : decode cL_law 190 = .ok (.iload_n 2, 1) := by decide +kernel
theorem dL_law_191 : decode cL_law 191 = .ok (.invokestatic 15, 3) := by decide +kernel
theorem dL_law_194 : decode cL_law 194 = .ok (.aload_n 0, 1) := by decide +kernel
theorem dL_law_195 : decode cL_law 195 = .ok (.iload 4, 2) := by decide +kernel
theorem dL_law_197 : decode cL_law 197 = .ok (.invokestatic 9, 3) := by decide +kernel
theorem dL_law_200 : decode cL_law 200 = .ok (.bipush 10, 2) := by decide +kernel
theorem dL_law_202 : decode cL_law 202 = .ok (.invokestatic 15, 3) := by decide +kernel
theorem dL_law_205 : decode cL_law 205 = .ok (.aload_n 0, 1) := by decide +kernel
theorem dL_law_206 : decode cL_law 206 = .ok (.iload 4, 2) := by decide +kernel
theorem dL_law_208 : decode cL_law 208 = .ok (.iconst 3, 1) := by decide +kernel
theorem dL_law_209 : decode cL_law 209 = .ok (.iadd, 1) := by decide +kernel
theorem dL_law_210 : decode cL_law 210 = .ok (.invokestatic 9, 3) := by decide +kernel
theorem dL_law_213 : decode cL_law 213 = .ok (.bipush 12, 2) := by decide +kernel
theorem dL_law_215 : decode cL_law 215 = .ok (.invokestatic 15, 3) := by decide +kernel
theorem dL_law_218 : decode cL_law 218 = .ok (.invokevirtual 117, 3) := by decide +kernel
theorem dL_law_221 : decode cL_law 221 = .ok (.pop, 1) := by decide +kernel
theorem dL_law_222 : decode cL_law 222 = .ok (.iinc 4 1, 3) := by decide +kernel
theorem dL_law_225 : decode cL_law 225 = .ok (.goto (-60), 3) := by decide +kernel
theorem dL_law_228 : decode cL_law 228 = .ok (.iconst 0, 1) := by decide +kernel
theorem dL_law_229 : decode cL_law 229 = .ok (.istore 4, 2) := by decide +kernel
theorem dL_law_231 : decode cL_law 231 = .ok (.iload 4, 2) := by decide +kernel
theorem dL_law_233 : decode cL_law 233 = .ok (.bipush 30, 2) := by decide +kernel
theorem dL_law_235 : decode cL_law 235 = .ok (.if_icmp .ge 443, 3) := by decide +kernel
theorem dL_law_238 : decode cL_law 238 = .ok (.aload_n 0, 1) := by decide +kernel
theorem dL_law_239 : decode cL_law 239 = .ok (.iload 4, 2) := by decide +kernel
theorem dL_law_241 : decode cL_law 241 = .ok (.bipush 16, 2) := by decide +kernel
theorem dL_law_243 : decode cL_law 243 = .ok (.irem, 1) := by decide +kernel
theorem dL_law_244 : decode cL_law 244 = .ok (.invokestatic 9, 3) := by decide +kernel
theorem dL_law_247 : decode cL_law 247 = .ok (.iload 4, 2) := by decide +kernel
theorem dL_law_249 : decode cL_law 249 = .ok (.bipush 16, 2) := by decide +kernel
theorem dL_law_251 : decode cL_law 251 = .ok (.idiv, 1) := by decide +kernel
theorem dL_law_252 : decode cL_law 252 = .ok (.iconst 3, 1) := by decide +kernel
theorem dL_law_253 : decode cL_law 253 = .ok (.imul, 1) := by decide +kernel
theorem dL_law_254 : decode cL_law 254 = .ok (.ishr, 1) := by decide +kernel
theorem dL_law_255 : decode cL_law 255 = .ok (.istore 5, 2) := by decide +kernel
theorem dL_law_257 : decode cL_law 257 = .ok (.iload 5, 2) := by decide +kernel
theorem dL_law_259 : decode cL_law 259 = .ok (.iconst 2, 1) := by decide +kernel
theorem dL_law_260 : decode cL_law 260 = .ok (.ishr, 1) := by decide +kernel
theorem dL_law_261 : decode cL_law 261 = .ok (.aload_n 1, 1) := by decide +kernel
theorem dL_law_262 : decode cL_law 262 = .ok (.invokevirtual 51, 3) := by decide +kernel
theorem dL_law_265 : decode cL_law 265 = .ok (.invokestatic 15, 3) := by decide +kernel
theorem dL_law_268 : decode cL_law 268 = .ok (.istore 6, 2) := by decide +kernel
theorem dL_law_270 : decode cL_law 270 = .ok (.aload_n 1, 1) := by decide +kernel
theorem dL_law_271 : decode cL_law 271 = .ok (.iload 6, 2) := by decide +kernel
theorem dL_law_273 : decode cL_law 273 = .ok (.invokevirtual 54, 3) := by decide +kernel
theorem dL_law_276 : decode cL_law 276 = .ok (.istore 7, 2) := by decide +kernel
theorem dL_law_278 : decode cL_law 278 = .ok (.aload_n 1, 1) := by decide +kernel
theorem dL_law_279 : decode cL_law 279 = .ok (.invokevirtual 60, 3) := by decide +kernel
theorem dL_law_282 : decode cL_law 282 = .ok (.istore 8, 2) := by decide +kernel
theorem dL_law_284 : decode cL_law 284 = .ok (.aload_n 1, 1) := by decide +kernel
theorem dL_law_285 : decode cL_law 285 = .ok (.invokevirtual 121, 3) := by decide +kernel
theorem dL_law_288 : decode cL_law 288 = .ok (.istore 9, 2) := by decide +kernel
theorem dL_law_290 : decode cL_law 290 = .ok (.iload 5, 2) := by decide +kernel
theorem dL_law_292 : decode cL_law 292 = .ok (.bipush 6, 2) := by decide +kernel
theorem dL_law_294 : decode cL_law 294 = .ok (.invokestatic 15, 3) := by decide +kernel
theorem dL_law_297 : decode cL_law 297 = .ok (.istore 10, 2) := by decide +kernel
theorem dL_law_299 : decode cL_law 299 = .ok (.iload 10, 2) := by decide +kernel
theorem dL_law_301 : decode cL_law 301 = .ok (.ifCond .ne 80, 3) := by decide +kernel
theorem dL_law_304 : decode cL_law 304 = .ok (.iload 7, 2) := by decide +kernel
theorem dL_law_306 : decode cL_law 306 = .ok (.ifCond .le 75, 3) := by decide +kernel
theorem dL_law_309 : decode cL_law 309 = .ok (.iload 7, 2) := by decide +kernel
theorem dL_law_311 : decode cL_law 311 = .ok (.iconst 5, 1) := by decide +kernel
theorem dL_law_312 : decode cL_law 312 = .ok (.if_icmp .ge 69, 3) := by decide +kernel
theorem dL_law_315 : decode cL_law 315 = .ok (.aload_n 1, 1) := by decide +kernel
theorem dL_law_316 : decode cL_law 316 = .ok (.iload 6, 2) := by decide +kernel
theorem dL_law_318 : decode cL_law 318 = .ok (.invokevirtual 57, 3) := by decide +kernel
theorem dL_law_321 : decode cL_law 321 = .ok (.iload 8, 2) := by decide +kernel
theorem dL_law_323 : decode cL_law 323 = .ok (.isub, 1) := by decide +kernel
theorem dL_law_324 : decode cL_law 324 = .ok (.istore 11, 2) := by decide +kernel
theorem dL_law_326 : decode cL_law 326 = .ok (.aload_n 1, 1) := by decide +kernel
theorem dL_law_327 : decode cL_law 327 = .ok (.iload 6, 2) := by decide +kernel
theorem dL_law_329 : decode cL_law 329 = .ok (.invokevirtual 124, 3) := by decide +kernel
theorem dL_law_332 : decode cL_law 332 = .ok (.istore 12, 2) := by decide +kernel
theorem dL_law_334 : decode cL_law 334 = .ok (.iload 7, 2) := by decide +kernel
theorem dL_law_336 : decode cL_law 336 = .ok (.iconst 1, 1) := by decide +kernel
theorem dL_law_337 : decode cL_law 337 = .ok (.if_icmp .ne 10, 3) := by decide +kernel
theorem dL_law_340 : decode cL_law 340 = .ok (.iload 12, 2) := by decide +kernel
theorem dL_law_342 : decode cL_law 342 = .ok (.iload 11, 2) := by decide +kernel
theorem dL_law_344 : decode cL_law 344 = .ok (.if_icmp .ne 32, 3) := by decide +kernel
theorem dL_law_347 : decode cL_law 347 = .ok (.aload_n 1, 1) := by decide +kernel
theorem dL_law_348 : decode cL_law 348 = .ok (.iload 6, 2) := by decide +kernel
theorem dL_law_350 : decode cL_law 350 = .ok (.invokevirtual 54, 3) := by decide +kernel
theorem dL_law_353 : decode cL_law 353 = .ok (.ifCond .ne 23, 3) := by decide +kernel
theorem dL_law_356 : decode cL_law 356 = .ok (.aload_n 1, 1) := by decide +kernel
theorem dL_law_357 : decode cL_law 357 = .ok (.iload 6, 2) := by decide +kernel
theorem dL_law_359 : decode cL_law 359 = .ok (.invokevirtual 57, 3) := by decide +kernel
theorem dL_law_362 : decode cL_law 362 = .ok (.iload 8, 2) := by decide +kernel
theorem dL_law_364 : decode cL_law 364 = .ok (.if_icmp .ne 12, 3) := by decide +kernel
theorem dL_law_367 : decode cL_law 367 = .ok (.aload_n 1, 1) := by decide +kernel
theorem dL_law_368 : decode cL_law 368 = .ok (.invokevirtual 121, 3) := by decide +kernel
theorem dL_law_371 : decode cL_law 371 = .ok (.iload 9, 2) := by decide +kernel
theorem dL_law_373 : decode cL_law 373 = .ok (.if_icmp .eq 5, 3) := by decide +kernel
theorem dL_law_376 : decode cL_law 376 = .ok (.iconst 0, 1) := by decide +kernel
theorem dL_law_377 : decode cL_law 377 = .ok (.ireturn, 1) := by decide +kernel
theorem dL_law_378 : decode cL_law 378 = .ok (.goto 197, 3) := by decide +kernel
theorem dL_law_381 : decode cL_law 381 = .ok (.iload 10, 2) := by decide +kernel
theorem dL_law_383 : decode cL_law 383 = .ok (.iconst 1, 1) := by decide +kernel
theorem dL_law_384 : decode cL_law 384 = .ok (.if_icmp .ne 67, 3) := by decide +kernel
theorem dL_law_387 : decode cL_law 387 = .ok (.iload 7, 2) := by decide +kernel
theorem dL_law_389 : decode cL_law 389 = .ok (.iconst 5, 1) := by decide +kernel
theorem dL_law_390 : decode cL_law 390 = .ok (.if_icmp .ge 61, 3) := by decide +kernel
theorem dL_law_393 : decode cL_law 393 = .ok (.iconst 0, 1) := by decide +kernel
theorem dL_law_394 : decode cL_law 394 = .ok (.istore 11, 2) := by decide +kernel
theorem dL_law_396 : decode cL_law 396 = .ok (.iconst 0, 1) := by decide +kernel
theorem dL_law_397 : decode cL_law 397 = .ok (.istore 12, 2) := by decide +kernel
theorem dL_law_399 : decode cL_law 399 = .ok (.iload 12, 2) := by decide +kernel
theorem dL_law_401 : decode cL_law 401 = .ok (.iconst 2, 1) := by decide +kernel
theorem dL_law_402 : decode cL_law 402 = .ok (.if_icmp .ge 22, 3) := by decide +kernel
theorem dL_law_405 : decode cL_law 405 = .ok (.iload 11, 2) := by decide +kernel
theorem dL_law_407 : decode cL_law 407 = .ok (.aload_n 1, 1) := by decide +kernel
theorem dL_law_408 : decode cL_law 408 = .ok (.iload 6, 2) := by decide +kernel
theorem dL_law_410 : decode cL_law 410 = .ok (.iload 12, 2) := by decide +kernel
theorem dL_law_412 : decode cL_law 412 = .ok (.invokevirtual 69, 3) := by decide +kernel
theorem dL_law_415 : decode cL_law 415 = .ok (.iadd, 1) := by decide +kernel
theorem dL_law_416 : decode cL_law 416 = .ok (.istore 11, 2) := by decide +kernel
theorem dL_law_418 : decode cL_law 418 = .ok (.iinc 12 1, 3) := by decide +kernel
theorem dL_law_421 : decode cL_law 421 = .ok (.goto (-22), 3) := by decide +kernel
theorem dL_law_424 : decode cL_law 424 = .ok (.aload_n 1, 1) := by decide +kernel
theorem dL_law_425 : decode cL_law 425 = .ok (.iload 6, 2) := by decide +kernel
theorem dL_law_427 : decode cL_law 427 = .ok (.invokevirtual 127, 3) := by decide +kernel
theorem dL_law_430 : decode cL_law 430 = .ok (.iload 11, 2) := by decide +kernel
theorem dL_law_432 : decode cL_law 432 = .ok (.if_icmp .ne 14, 3) := by decide +kernel
theorem dL_law_435 : decode cL_law 435 = .ok (.aload_n 1, 1) := by decide +kernel
theorem dL_law_436 : decode cL_law 436 = .ok (.iload 6, 2) := by decide +kernel
theorem dL_law_438 : decode cL_law 438 = .ok (.invokevirtual 54, 3) := by decide +kernel
theorem dL_law_441 : decode cL_law 441 = .ok (.bipush 7, 2) := by decide +kernel
theorem dL_law_443 : decode cL_law 443 = .ok (.if_icmp .eq 5, 3) := by decide +kernel
theorem dL_law_446 : decode cL_law 446 = .ok (.iconst 0, 1) := by decide +kernel
theorem dL_law_447 : decode cL_law 447 = .ok (.ireturn, 1) := by decide +kernel
theorem dL_law_448 : decode cL_law 448 = .ok (.goto 127, 3) := by decide +kernel
theorem dL_law_451 : decode cL_law 451 = .ok (.aload_n 1, 1) := by decide +kernel
theorem dL_law_452 : decode cL_law 452 = .ok (.invokevirtual 72, 3) := by decide +kernel
theorem dL_law_455 : decode cL_law 455 = .ok (.ifCond .le 120, 3) := by decide +kernel
theorem dL_law_458 : decode cL_law 458 = .ok (.aload_n 1, 1) := by decide +kernel
theorem dL_law_459 : decode cL_law 459 = .ok (.invokevirtual 75, 3) := by decide +kernel
theorem dL_law_462 : decode cL_law 462 = .ok (.istore 11, 2) := by decide +kernel
theorem dL_law_464 : decode cL_law 464 = .ok (.aload_n 1, 1) := by decide +kernel
theorem dL_law_465 : decode cL_law 465 = .ok (.iload 6, 2) := by decide +kernel
theorem dL_law_467 : decode cL_law 467 = .ok (.iconst 1, 1) := by decide +kernel
theorem dL_law_468 : decode cL_law 468 = .ok (.invokevirtual 130, 3) := by decide +kernel
theorem dL_law_471 : decode cL_law 471 = .ok (.istore 12, 2) := by decide +kernel
theorem dL_law_473 : decode cL_law 473 = .ok (.aload_n 1, 1) := by decide +kernel
theorem dL_law_474 : decode cL_law 474 = .ok (.invokevirtual 133, 3) := by decide +kernel
theorem dL_law_477 : decode cL_law 477 = .ok (.istore 13, 2) := by decide +kernel
theorem dL_law_479 : decode cL_law 479 = .ok (.aload_n 1, 1) := by decide +kernel
theorem dL_law_480 : decode cL_law 480 = .ok (.invokevirtual 60, 3) := by decide +kernel
theorem dL_law_483 : decode cL_law 483 = .ok (.iload 11, 2) := by decide +kernel
theorem dL_law_485 : decode cL_law 485 = .ok (.if_icmp .ne 88, 3) := by decide +kernel
theorem dL_law_488 : decode cL_law 488 = .ok (.aload_n 1, 1) := by decide +kernel
theorem dL_law_489 : decode cL_law 489 = .ok (.invokevirtual 121, 3) := by decide +kernel
theorem dL_law_492 : decode cL_law 492 = .ok (.iload 9, 2) := by decide +kernel
theorem dL_law_494 : decode cL_law 494 = .ok (.if_icmp .lt 79, 3) := by decide +kernel
theorem dL_law_497 : decode cL_law 497 = .ok (.aload_n 1, 1) := by decide +kernel
theorem dL_law_498 : decode cL_law 498 = .ok (.invokevirtual 121, 3) := by decide +kernel
theorem dL_law_501 : decode cL_law 501 = .ok (.iload 9, 2) := by decide +kernel
theorem dL_law_503 : decode cL_law 503 = .ok (.bipush 40, 2) := by decide +kernel
theorem dL_law_505 : decode cL_law 505 = .ok (.iadd, 1) := by decide +kernel
theorem dL_law_506 : decode cL_law 506 = .ok (.if_icmp .gt 67, 3) := by decide +kernel
theorem dL_law_509 : decode cL_law 509 = .ok (.iload 7, 2) := by decide +kernel
theorem dL_law_511 : decode cL_law 511 = .ok (.iconst 4, 1) := by decide +kernel
theorem dL_law_512 : decode cL_law 512 = .ok (.if_icmp .le 21, 3) := by decide +kernel
theorem dL_law_515 : decode cL_law 515 = .ok (.aload_n 1, 1) := by decide +kernel
theorem dL_law_516 : decode cL_law 516 = .ok (.iload 6, 2) := by decide +kernel
theorem dL_law_518 : decode cL_law 518 = .ok (.invokevirtual 54, 3) := by decide +kernel
theorem dL_law_521 : decode cL_law 521 = .ok (.iload 7, 2) := by decide +kernel
theorem dL_law_523 : decode cL_law 523 = .ok (.if_icmp .ne 50, 3) := by decide +kernel
theorem dL_law_526 : decode cL_law 526 = .ok (.iload 12, 2) := by decide +kernel
theorem dL_law_528 : decode cL_law 528 = .ok (.iload 8, 2) := by decide +kernel
theorem dL_law_530 : decode cL_law 530 = .ok (.if_icmp .ne 43, 3) := by decide +kernel
theorem dL_law_533 : decode cL_law 533 = .ok (.iload 7, 2) := by decide +kernel
theorem dL_law_535 : decode cL_law 535 = .ok (.iconst 5, 1) := by decide +kernel
theorem dL_law_536 : decode cL_law 536 = .ok (.if_icmp .ge 26, 3) := by decide +kernel
theorem dL_law_539 : decode cL_law 539 = .ok (.iload 12, 2) := by decide +kernel
theorem dL_law_541 : decode cL_law 541 = .ok (.aload_n 1, 1) := by decide +kernel
theorem dL_law_542 : decode cL_law 542 = .ok (.iload 6, 2) := by decide +kernel
theorem dL_law_544 : decode cL_law 544 = .ok (.invokevirtual 54, 3) := by decide +kernel
theorem dL_law_547 : decode cL_law 547 = .ok (.iconst 4, 1) := by decide +kernel
theorem dL_law_548 : decode cL_law 548 = .ok (.if_icmp .le 10, 3) := by decide +kernel
theorem dL_law_551 : decode cL_law 551 = .ok (.aload_n 1, 1) := by decide +kernel
theorem dL_law_552 : decode cL_law 552 = .ok (.invokevirtual 60, 3) := by decide +kernel
theorem dL_law_555 : decode cL_law 555 = .ok (.goto 4, 3) := by decide +kernel
theorem dL_law_558 : decode cL_law 558 = .ok (.iconst (-1), 1) := by decide +kernel
theorem dL_law_559 : decode cL_law 559 = .ok (.if_icmp .ne 14, 3) := by decide +kernel
theorem dL_law_562 : decode cL_law 562 = .ok (.aload_n 1, 1) := by decide +kernel
theorem dL_law_563 : decode cL_law 563 = .ok (.iload 13, 2) := by decide +kernel
theorem dL_law_565 : decode cL_law 565 = .ok (.invokevirtual 54, 3) := by decide +kernel
theorem dL_law_568 : decode cL_law 568 = .ok (.bipush 7, 2) := by decide +kernel
theorem dL_law_570 : decode cL_law 570 = .ok (.if_icmp .ne 5, 3) := by decide +kernel
theorem dL_law_573 : decode cL_law 573 = .ok (.iconst 0, 1) := by decide +kernel
theorem dL_law_574 : decode cL_law 574 = .ok (.ireturn, 1) := by decide +kernel
theorem dL_law_575 : decode cL_law 575 = .ok (.aload_n 1, 1) := by decide +kernel
theorem dL_law_576 : decode cL_law 576 = .ok (.invokevirtual 136, 3) := by decide +kernel
theorem dL_law_579 : decode cL_law 579 = .ok (.lstore 11, 2) := by decide +kernel
theorem dL_law_581 : decode cL_law 581 = .ok (.aload_n 1, 1) := by decide +kernel
theorem dL_law_582 : decode cL_law 582 = .ok (.iconst 1, 1) := by decide +kernel
theorem dL_law_583 : decode cL_law 583 = .ok (.iload 5, 2) := by decide +kernel
theorem dL_law_585 : decode cL_law 585 = .ok (.iconst 4, 1) := by decide +kernel
theorem dL_law_586 : decode cL_law 586 = .ok (.ishr, 1) := by decide +kernel
theorem dL_law_587 : decode cL_law 587 = .ok (.bipush 20, 2) := by decide +kernel
theorem dL_law_589 : decode cL_law 589 = .ok (.invokestatic 15, 3) := by decide +kernel
theorem dL_law_592 : decode cL_law 592 = .ok (.invokevirtual 140, 3) := by decide +kernel
theorem dL_law_595 : decode cL_law 595 = .ok (.istore 13, 2) := by decide +kernel
theorem dL_law_597 : decode cL_law 597 = .ok (.iload 13, 2) := by decide +kernel
theorem dL_law_599 : decode cL_law 599 = .ok (.aload_n 1, 1) := by decide +kernel
theorem dL_law_600 : decode cL_law 600 = .ok (.iconst 1, 1) := by decide +kernel
theorem dL_law_601 : decode cL_law 601 = .ok (.invokevirtual 81, 3) := by decide +kernel
theorem dL_law_604 : decode cL_law 604 = .ok (.if_icmp .lt 66, 3) := by decide +kernel
theorem dL_law_607 : decode cL_law 607 = .ok (.aload_n 1, 1) := by decide +kernel
theorem dL_law_608 : decode cL_law 608 = .ok (.iconst 0, 1) := by decide +kernel
theorem dL_law_609 : decode cL_law 609 = .ok (.invokevirtual 143, 3) := by decide +kernel
theorem dL_law_612 : decode cL_law 612 = .ok (.dconst 0, 1) := by decide +kernel
theorem dL_law_613 : decode cL_law 613 = .ok (.dcmp .g, 1) := by decide +kernel
theorem dL_law_614 : decode cL_law 614 = .ok (.ifCond .lt 56, 3) := by decide +kernel
theorem dL_law_617 : decode cL_law 617 = .ok (.aload_n 1, 1) := by decide +kernel
theorem dL_law_618 : decode cL_law 618 = .ok (.iconst 0, 1) := by decide +kernel
theorem dL_law_619 : decode cL_law 619 = .ok (.invokevirtual 147, 3) := by decide +kernel
theorem dL_law_622 : decode cL_law 622 = .ok (.aload_n 1, 1) := by decide +kernel
theorem dL_law_623 : decode cL_law 623 = .ok (.iconst 0, 1) := by decide +kernel
theorem dL_law_624 : decode cL_law 624 = .ok (.invokevirtual 150, 3) := by decide +kernel
theorem dL_law_627 : decode cL_law 627 = .ok (.if_icmp .lt 43, 3) := by decide +kernel
theorem dL_law_630 : decode cL_law 630 = .ok (.aload_n 1, 1) := by decide +kernel
theorem dL_law_631 : decode cL_law 631 = .ok (.iconst 0, 1) := by decide +kernel
theorem dL_law_632 : decode cL_law 632 = .ok (.iconst 1, 1) := by decide +kernel
theorem dL_law_633 : decode cL_law 633 = .ok (.invokevirtual 153, 3) := by decide +kernel
theorem dL_law_636 : decode cL_law 636 = .ok (.aload_n 1, 1) := by decide +kernel
theorem dL_law_637 : decode cL_law 637 = .ok (.iconst 0, 1) := by decide +kernel
theorem dL_law_638 : decode cL_law 638 = .ok (.iconst 2, 1) := by decide +kernel
theorem dL_law_639 : decode cL_law 639 = .ok (.invokevirtual 153, 3) := by decide +kernel
theorem dL_law_642 : decode cL_law 642 = .ok (.if_icmp .gt 28, 3) := by decide +kernel
theorem dL_law_645 : decode cL_law 645 = .ok (.aload_n 1, 1) := by decide +kernel
theorem dL_law_646 : decode cL_law 646 = .ok (.invokevirtual 136, 3) := by decide +kernel
theorem dL_law_649 : decode cL_law 649 = .ok (.lload 11, 2) := by decide +kernel
theorem dL_law_651 : decode cL_law 651 = .ok (.lcmp, 1) := by decide +kernel
theorem dL_law_652 : decode cL_law 652 = .ok (.ifCond .ne 18, 3) := by decide +kernel
theorem dL_law_655 : decode cL_law 655 = .ok (.aload_n 1, 1) := by decide +kernel
theorem dL_law_656 : decode cL_law 656 = .ok (.aload_n 3, 1) := by decide +kernel
theorem dL_law_657 : decode cL_law 657 = .ok (.getfield 156, 3) := by decide +kernel
theorem dL_law_660 : decode cL_law 660 = .ok (.aload_n 3, 1) := by decide +kernel
theorem dL_law_661 : decode cL_law 661 = .ok (.getfield 159, 3) := by decide +kernel
theorem dL_law_664 : decode cL_law 664 = .ok (.invokestatic 162, 3) := by decide +kernel
theorem dL_law_667 : decode cL_law 667 = .ok (.ifCond .ne 5, 3) := by decide +kernel
theorem dL_law_670 : decode cL_law 670 = .ok (.iconst 0, 1) := by decide +kernel
theorem dL_law_671 : decode cL_law 671 = .ok (.ireturn, 1) := by decide +kernel
theorem dL_law_672 : decode cL_law 672 = .ok (.iinc 4 1, 3) := by decide +kernel
theorem dL_law_675 : decode cL_law 675 = .ok (.goto (-444), 3) := by decide +kernel
theorem dL_law_678 : decode cL_law 678 = .ok (.iconst 1, 1) := by decide +kernel
theorem dL_law_679 : decode cL_law 679 = .ok (.ireturn, 1) := by decide +kernel
end
section
/-! the words of the tables, by their places -/
def lw_all : List Cond := lw_tbl.filter goodWord
theorem gd_all : GoodIn lw_all lw_all := fun w h => ⟨h, good_of_word (List.mem_filter.mp h).2⟩
theorem lw_in0 : ∀ w ∈ lw_all, w ∈ lw_tbl := fun w h => (List.mem_filter.mp h).1
theorem lw_s0 {w : Cond} {i : Nat} (h : (k2_sels lw_privs)[i]? = some w) (hg : goodWord w = true) : w ∈ lw_all := List.mem_filter.mpr ⟨List.mem_append_left _ (List.mem_of_getElem? h), hg⟩
theorem lw_s1 {w : Cond} {i : Nat} (h : tables_1_1[i]? = some w) (hg : goodWord w = true) : w ∈ lw_all := List.mem_filter.mpr ⟨List.mem_append_right _ (List.mem_append_left _ (List.mem_of_getElem? h)), hg⟩
theorem lw_s2 {w : Cond} {i : Nat} (h : tables_1_2[i]? = some w) (hg : goodWord w = true) : w ∈ lw_all := List.mem_filter.mpr ⟨List.mem_append_right _ (List.mem_append_right _ (List.mem_append_left _ (List.mem_of_getElem? h))), hg⟩
theorem lw_s3 {w : Cond} {i : Nat} (h : tables_1_3[i]? = some w) (hg : goodWord w = true) : w ∈ lw_all := List.mem_filter.mpr ⟨List.mem_append_right _ (List.mem_append_right _ (List.mem_append_right _ (List.mem_append_left _ (List.mem_of_getElem? h)))), hg⟩
theorem lw_s4 {w : Cond} {i : Nat} (h : tables_1_4[i]? = some w) (hg : goodWord w = true) : w ∈ lw_all := List.mem_filter.mpr ⟨List.mem_append_right _ (List.mem_append_right _ (List.mem_append_right _ (List.mem_append_right _ (List.mem_append_left _ (List.mem_of_getElem? h))))), hg⟩
theorem lw_s5 {w : Cond} {i : Nat} (h : tables_1_5[i]? = some w) (hg : goodWord w = true) : w ∈ lw_all := List.mem_filter.mpr ⟨List.mem_append_right _ (List.mem_append_right _ (List.mem_append_right _ (List.mem_append_right _ (List.mem_append_right _ (List.mem_append_left _ (List.mem_of_getElem? h)))))), hg⟩
theorem lw_s6 {w : Cond} {i : Nat} (h : tables_1_6[i]? = some w) (hg : goodWord w = true) : w ∈ lw_all := List.mem_filter.mpr ⟨List.mem_append_right _ (List.mem_append_right _ (List.mem_append_right _ (List.mem_append_right _ (List.mem_append_right _ (List.mem_append_right _ (List.mem_of_getElem? h)))))), hg⟩
theorem i_X0 : ∀ w ∈ wsX00, w ∈ lw_all := fun w h => List.mem_filter.mpr ⟨(show ∀ w ∈ wsX00, w ∈ lw_tbl by decide +kernel) w h, (show ∀ w ∈ wsX00, goodWord w = true by decide +kernel) w h⟩
theorem i_X1 : ∀ w ∈ wsX10, w ∈ lw_all := fun w h => List.mem_filter.mpr ⟨(show ∀ w ∈ wsX10, w ∈ lw_tbl by decide +kernel) w h, (show ∀ w ∈ wsX10, goodWord w = true by decide +kernel) w h⟩
theorem i_X2 : ∀ w ∈ wsX20, w ∈ lw_all := fun w h => List.mem_filter.mpr ⟨(show ∀ w ∈ wsX20, w ∈ lw_tbl by decide +kernel) w h, (show ∀ w ∈ wsX20, goodWord w = true by decide +kernel) w h⟩
theorem i_X3 : ∀ w ∈ wsX30, w ∈ lw_all := fun w h => List.mem_filter.mpr ⟨(show ∀ w ∈ wsX30, w ∈ lw_tbl by decide +kernel) w h, (show ∀ w ∈ wsX30, goodWord w = true by decide +kernel) w h⟩
theorem i_X4 : ∀ w ∈ wsX40, w ∈ lw_all := fun w h => List.mem_filter.mpr ⟨(show ∀ w ∈ wsX40, w ∈ lw_tbl by decide +kernel) w h, (show ∀ w ∈ wsX40, goodWord w = true by decide +kernel) w h⟩
theorem i_X5 : ∀ w ∈ wsX50, w ∈ lw_all := fun w h => List.mem_filter.mpr ⟨(show ∀ w ∈ wsX50, w ∈ lw_tbl by decide +kernel) w h, (show ∀ w ∈ wsX50, goodWord w = true by decide +kernel) w h⟩
theorem i_X6 : ∀ w ∈ wsX60, w ∈ lw_all := fun w h => List.mem_filter.mpr ⟨(show ∀ w ∈ wsX60, w ∈ lw_tbl by decide +kernel) w h, (show ∀ w ∈ wsX60, goodWord w = true by decide +kernel) w h⟩
theorem i_X7 : ∀ w ∈ wsX70, w ∈ lw_all := fun w h => List.mem_filter.mpr ⟨(show ∀ w ∈ wsX70, w ∈ lw_tbl by decide +kernel) w h, (show ∀ w ∈ wsX70, goodWord w = true by decide +kernel) w h⟩
theorem i_X8 : ∀ w ∈ wsX80, w ∈ lw_all := fun w h => List.mem_filter.mpr ⟨(show ∀ w ∈ wsX80, w ∈ lw_tbl by decide +kernel) w h, (show ∀ w ∈ wsX80, goodWord w = true by decide +kernel) w h⟩
theorem i_X9 : ∀ w ∈ wsX90, w ∈ lw_all := fun w h => List.mem_filter.mpr ⟨(show ∀ w ∈ wsX90, w ∈ lw_tbl by decide +kernel) w h, (show ∀ w ∈ wsX90, goodWord w = true by decide +kernel) w h⟩
theorem i_Jx4a65c : ∀ w ∈ wsJx4a65c0, w ∈ lw_all := fun w h => List.mem_filter.mpr ⟨(show ∀ w ∈ wsJx4a65c0, w ∈ lw_tbl by decide +kernel) w h, (show ∀ w ∈ wsJx4a65c0, goodWord w = true by decide +kernel) w h⟩
theorem gd_code {w : Cond} (h : w ∈ lw_all) : GoodIn lw_all (w :: lw_all) := fun v hv => (List.mem_cons.mp hv).elim (fun e => e ▸ gd_all w h) (gd_all v)
theorem gd_V {own C : String} {idx : Nat} {y : MethodName} {w : Cond} (h1 : Cond.methodLink own idx y ∈ lw_all) (h2 : Cond.instanceMethod y ∈ lw_all) (h3 : Cond.selects C y y ∈ lw_all) (h4 : Cond.initialized C ∈ lw_all) (h5 : w ∈ lw_all) : GoodIn lw_all (wsV own idx C y (w :: lw_all)) := by
  intro v hv
  unfold wsV at hv
  rcases List.mem_append.mp hv with h | h
  · rcases List.mem_cons.mp h with e | h
    · rw [e]; exact gd_all _ h1
    rcases List.mem_cons.mp h with e | h
    · rw [e]; exact gd_all _ h2
    rcases List.mem_cons.mp h with e | h
    · rw [e]; exact gd_all _ h3
    rcases List.mem_cons.mp h with e | h
    · rw [e]; exact gd_all _ h4
    cases h
  · exact gd_code h5 v h
theorem gd_S {own : String} {idx : Nat} {y : MethodName} {w : Cond} (h1 : Cond.methodLink own idx y ∈ lw_all) (h2 : Cond.static y ∈ lw_all) (h4 : Cond.initialized y.cls ∈ lw_all) (h5 : w ∈ lw_all) : GoodIn lw_all (va_wsS own idx y (w :: lw_all)) := by
  intro v hv
  unfold va_wsS at hv
  rcases List.mem_append.mp hv with h | h
  · rcases List.mem_cons.mp h with e | h
    · rw [e]; exact gd_all _ h1
    rcases List.mem_cons.mp h with e | h
    · rw [e]; exact gd_all _ h2
    rcases List.mem_cons.mp h with e | h
    · rw [e]; exact gd_all _ h4
    cases h
  · exact gd_code h5 v h
end
section
theorem q1 : Cond.selects RX8 yX8_demandScript yX8_demandScript ∈ lw_all := lw_s0 (i := 1) (by decide +kernel) (by decide +kernel)
theorem q2 : Cond.selects RX7 yX7_obey yX7_obey ∈ lw_all := lw_s0 (i := 2) (by decide +kernel) (by decide +kernel)
theorem q3 : Cond.selects RX7 yX7_drawBelow yX7_drawBelow ∈ lw_all := lw_s0 (i := 3) (by decide +kernel) (by decide +kernel)
theorem q4 : Cond.selects RX7 yX7_seize yX7_seize ∈ lw_all := lw_s0 (i := 4) (by decide +kernel) (by decide +kernel)
theorem q5 : Cond.selects RX7 yX7_queueUp yX7_queueUp ∈ lw_all := lw_s0 (i := 5) (by decide +kernel) (by decide +kernel)
theorem q6 : Cond.selects RX7 yX7_enter yX7_enter ∈ lw_all := lw_s0 (i := 6) (by decide +kernel) (by decide +kernel)
theorem q7 : Cond.selects RX7 yX7_firstIn yX7_firstIn ∈ lw_all := lw_s0 (i := 7) (by decide +kernel) (by decide +kernel)
theorem q8 : Cond.selects RX7 yX7_unitsOfVictims yX7_unitsOfVictims ∈ lw_all := lw_s0 (i := 8) (by decide +kernel) (by decide +kernel)
theorem q9 : Cond.selects RX7 yX7_unitsToTake yX7_unitsToTake ∈ lw_all := lw_s0 (i := 9) (by decide +kernel) (by decide +kernel)
theorem q10 : Cond.selects RX7 yX7_nextVictim yX7_nextVictim ∈ lw_all := lw_s0 (i := 10) (by decide +kernel) (by decide +kernel)
theorem q11 : Cond.selects RX7 yX7_throwOut yX7_throwOut ∈ lw_all := lw_s0 (i := 11) (by decide +kernel) (by decide +kernel)
theorem q12 : Cond.selects RX7 yX7_giveUnits yX7_giveUnits ∈ lw_all := lw_s0 (i := 12) (by decide +kernel) (by decide +kernel)
theorem q13 : Cond.selects RX7 yX7_serve yX7_serve ∈ lw_all := lw_s0 (i := 13) (by decide +kernel) (by decide +kernel)
theorem q14 : Cond.selects RX7 yX7_release yX7_release ∈ lw_all := lw_s0 (i := 14) (by decide +kernel) (by decide +kernel)
theorem q15 : Cond.selects RX7 yX7_exchange yX7_exchange ∈ lw_all := lw_s0 (i := 15) (by decide +kernel) (by decide +kernel)
theorem q16 : Cond.selects RX7 yX7_goOnWith yX7_goOnWith ∈ lw_all := lw_s0 (i := 16) (by decide +kernel) (by decide +kernel)
theorem q17 : Cond.selects RX7 yX7_wakeAll yX7_wakeAll ∈ lw_all := lw_s0 (i := 17) (by decide +kernel) (by decide +kernel)
theorem q18 : Cond.selects RX7 yX7_tell yX7_tell ∈ lw_all := lw_s0 (i := 18) (by decide +kernel) (by decide +kernel)
theorem q19 : Cond.selects RX6 yX6_keep yX6_keep ∈ lw_all := lw_s0 (i := 19) (by decide +kernel) (by decide +kernel)
theorem q20 : Cond.selects RJx4a65c yJx4a65c_add_72be8 yJx4a65c_add_72be8 ∈ lw_all := lw_s0 (i := 20) (by decide +kernel) (by decide +kernel)
theorem q21 : Cond.selects RJx4a65c yJx4a65c_grow_d5877 yJx4a65c_grow_d5877 ∈ lw_all := lw_s0 (i := 21) (by decide +kernel) (by decide +kernel)
theorem q22 : Cond.selects RJx4a65c yJx4a65c_grow_92f84 yJx4a65c_grow_92f84 ∈ lw_all := lw_s0 (i := 22) (by decide +kernel) (by decide +kernel)
theorem q23 : Cond.selects RX7 yX7_goAgain yX7_goAgain ∈ lw_all := lw_s0 (i := 23) (by decide +kernel) (by decide +kernel)
theorem q24 : Cond.selects RX7 yX7_skip yX7_skip ∈ lw_all := lw_s0 (i := 24) (by decide +kernel) (by decide +kernel)
theorem q25 : Cond.selects RX7 yX7_leave yX7_leave ∈ lw_all := lw_s0 (i := 25) (by decide +kernel) (by decide +kernel)
theorem q26 : Cond.selects RX8 yX8_demandProcess yX8_demandProcess ∈ lw_all := lw_s0 (i := 26) (by decide +kernel) (by decide +kernel)
theorem q27 : Cond.selects RX8 yX8_demandResource yX8_demandResource ∈ lw_all := lw_s0 (i := 27) (by decide +kernel) (by decide +kernel)
theorem q28 : Cond.selects RX8 yX8_demandTally yX8_demandTally ∈ lw_all := lw_s0 (i := 28) (by decide +kernel) (by decide +kernel)
theorem q29 : Cond.selects RX8 yX8_mixProcesses yX8_mixProcesses ∈ lw_all := lw_s0 (i := 29) (by decide +kernel) (by decide +kernel)
theorem q30 : Cond.selects RX8 yX8_mixResources yX8_mixResources ∈ lw_all := lw_s0 (i := 30) (by decide +kernel) (by decide +kernel)
theorem q31 : Cond.selects RX7 yX7_countBefore yX7_countBefore ∈ lw_all := lw_s0 (i := 31) (by decide +kernel) (by decide +kernel)
theorem q32 : Cond.selects RX8 yX8_mixStores yX8_mixStores ∈ lw_all := lw_s0 (i := 32) (by decide +kernel) (by decide +kernel)
theorem q33 : Cond.selects RX8 yX8_demandStore yX8_demandStore ∈ lw_all := lw_s0 (i := 33) (by decide +kernel) (by decide +kernel)
theorem q34 : Cond.selects RX8 yX8_mixTallies yX8_mixTallies ∈ lw_all := lw_s0 (i := 34) (by decide +kernel) (by decide +kernel)
theorem q35 : Cond.selects RX8 yX8_isInstruction yX8_isInstruction ∈ lw_all := lw_s0 (i := 35) (by decide +kernel) (by decide +kernel)
theorem q36 : Cond.initialized RL ∈ lw_all := lw_s1 (i := 0) (by decide +kernel) (by decide +kernel)
theorem q37 : Cond.initialized RX8 ∈ lw_all := lw_s1 (i := 1) (by decide +kernel) (by decide +kernel)
theorem q38 : Cond.initialized RJxa1e45 ∈ lw_all := lw_s1 (i := 2) (by decide +kernel) (by decide +kernel)
theorem q39 : Cond.initialized RJxc12de ∈ lw_all := lw_s1 (i := 3) (by decide +kernel) (by decide +kernel)
theorem q40 : Cond.initialized RJx4a65c ∈ lw_all := lw_s1 (i := 4) (by decide +kernel) (by decide +kernel)
theorem q41 : Cond.initialized RX7 ∈ lw_all := lw_s1 (i := 5) (by decide +kernel) (by decide +kernel)
theorem q42 : Cond.initialized RX2 ∈ lw_all := lw_s1 (i := 6) (by decide +kernel) (by decide +kernel)
theorem q48 : Cond.initialized RX3 ∈ lw_all := lw_s1 (i := 12) (by decide +kernel) (by decide +kernel)
theorem q49 : Cond.initialized RJ8 ∈ lw_all := lw_s1 (i := 13) (by decide +kernel) (by decide +kernel)
theorem q50 : Cond.initialized RJ9 ∈ lw_all := lw_s1 (i := 14) (by decide +kernel) (by decide +kernel)
theorem q51 : Cond.initialized RJ7 ∈ lw_all := lw_s1 (i := 15) (by decide +kernel) (by decide +kernel)
theorem q52 : Cond.initialized RJ10 ∈ lw_all := lw_s1 (i := 16) (by decide +kernel) (by decide +kernel)
theorem q53 : Cond.initialized RX5 ∈ lw_all := lw_s1 (i := 17) (by decide +kernel) (by decide +kernel)
theorem q54 : Cond.initialized RX6 ∈ lw_all := lw_s1 (i := 18) (by decide +kernel) (by decide +kernel)
theorem q55 : Cond.initialized RX4 ∈ lw_all := lw_s1 (i := 19) (by decide +kernel) (by decide +kernel)
theorem q56 : Cond.initialized RJ15 ∈ lw_all := lw_s1 (i := 20) (by decide +kernel) (by decide +kernel)
theorem q57 : Cond.initialized RJ3 ∈ lw_all := lw_s1 (i := 21) (by decide +kernel) (by decide +kernel)
theorem q59 : Cond.initialized RX1 ∈ lw_all := lw_s1 (i := 23) (by decide +kernel) (by decide +kernel)
theorem q60 : Cond.initialized RX9 ∈ lw_all := lw_s1 (i := 24) (by decide +kernel) (by decide +kernel)
theorem q61 : Cond.initialized RX0 ∈ lw_all := lw_s1 (i := 25) (by decide +kernel) (by decide +kernel)
theorem q62 : Cond.classLink RL 20 RX8 ∈ lw_all := lw_s1 (i := 26) (by decide +kernel) (by decide +kernel)
theorem q63 : Cond.instantiable RX8 4 ∈ lw_all := lw_s1 (i := 27) (by decide +kernel) (by decide +kernel)
theorem q64 : Cond.methodLink RL 109 yX8_init ∈ lw_all := lw_s1 (i := 28) (by decide +kernel) (by decide +kernel)
theorem q65 : Cond.instanceMethod yX8_init ∈ lw_all := lw_s1 (i := 29) (by decide +kernel) (by decide +kernel)
theorem q66 : Cond.code yX8_init prog_1_method_1_code 3 (Option.none : Option Jvm.ClassFile.FieldType) ∈ lw_all := lw_s1 (i := 30) (by rfl) (by rfl)
theorem q67 : Cond.methodLink RX8 3 ⟨"java/lang/Object", "<init>", "()V"⟩ ∈ lw_all := lw_s1 (i := 31) (by decide +kernel) (by decide +kernel)
theorem q68 : Cond.instanceMethod ⟨"java/lang/Object", "<init>", "()V"⟩ ∈ lw_all := lw_s1 (i := 32) (by decide +kernel) (by decide +kernel)
theorem q69 : Cond.code ⟨"java/lang/Object", "<init>", "()V"⟩ object_method_1_code 1 (Option.none : Option Jvm.ClassFile.FieldType) ∈ lw_all := lw_s1 (i := 33) (by rfl) (by rfl)
theorem q70 : Cond.classLink RX8 9 RJx4a65c ∈ lw_all := lw_s1 (i := 34) (by decide +kernel) (by decide +kernel)
theorem q71 : Cond.instantiable RJx4a65c 3 ∈ lw_all := lw_s1 (i := 35) (by decide +kernel) (by decide +kernel)
theorem q72 : Cond.methodLink RX8 11 yJx4a65c_init_da8c8 ∈ lw_all := lw_s1 (i := 36) (by decide +kernel) (by decide +kernel)
theorem q73 : Cond.instanceMethod yJx4a65c_init_da8c8 ∈ lw_all := lw_s1 (i := 37) (by decide +kernel) (by decide +kernel)
theorem q74 : Cond.code yJx4a65c_init_da8c8 prog_31_method_2_code 1 (Option.none : Option Jvm.ClassFile.FieldType) ∈ lw_all := lw_s1 (i := 38) (by rfl) (by rfl)
theorem q75 : Cond.methodLink RJx4a65c 1 yJxc12de_init_da8c8 ∈ lw_all := lw_s1 (i := 39) (by decide +kernel) (by decide +kernel)
theorem q76 : Cond.instanceMethod yJxc12de_init_da8c8 ∈ lw_all := lw_s1 (i := 40) (by decide +kernel) (by decide +kernel)
theorem q77 : Cond.code yJxc12de_init_da8c8 prog_30_method_1_code 1 (Option.none : Option Jvm.ClassFile.FieldType) ∈ lw_all := lw_s1 (i := 41) (by rfl) (by rfl)
theorem q78 : Cond.methodLink RJxc12de 1 yJxa1e45_init_da8c8 ∈ lw_all := lw_s1 (i := 42) (by decide +kernel) (by decide +kernel)
theorem q79 : Cond.instanceMethod yJxa1e45_init_da8c8 ∈ lw_all := lw_s1 (i := 43) (by decide +kernel) (by decide +kernel)
theorem q80 : Cond.code yJxa1e45_init_da8c8 prog_29_method_1_code 1 (Option.none : Option Jvm.ClassFile.FieldType) ∈ lw_all := lw_s1 (i := 44) (by rfl) (by rfl)
theorem q81 : Cond.methodLink RJxa1e45 1 ⟨"java/lang/Object", "<init>", "()V"⟩ ∈ lw_all := lw_s1 (i := 45) (by decide +kernel) (by decide +kernel)
theorem q82 : Cond.fieldLink RJx4a65c 39 "java/util/ArrayList" "DEFAULTCAPACITY_EMPTY_ELEMENTDATA" "[Ljava/lang/Object;" ∈ lw_all := lw_s1 (i := 46) (by decide +kernel) (by decide +kernel)
theorem q84 : Cond.fieldLink RJx4a65c 9 "java/util/ArrayList" "elementData" "[Ljava/lang/Object;" ∈ lw_all := lw_s1 (i := 48) (by decide +kernel) (by decide +kernel)
theorem q85 : Cond.fieldLink RJx4a65c 48 "java/util/ArrayList" "size" "I" ∈ lw_all := lw_s1 (i := 49) (by decide +kernel) (by decide +kernel)
theorem q86 : Cond.fieldLink RJxc12de 7 "java/util/AbstractList" "modCount" "I" ∈ lw_all := lw_s1 (i := 50) (by decide +kernel) (by decide +kernel)
theorem q87 : Cond.fieldLink RJx4a65c 63 "java/util/ArrayList" "modCount" "I" ∈ lw_all := lw_s1 (i := 51) (by decide +kernel) (by decide +kernel)
theorem q88 : Cond.sameField "java/util/ArrayList" "java/util/AbstractList" "modCount" "I" ∈ lw_all := lw_s1 (i := 52) (by decide +kernel) (by decide +kernel)
theorem q96 : Cond.classLink RX8 19 RX7 ∈ lw_all := lw_s1 (i := 60) (by decide +kernel) (by decide +kernel)
theorem q97 : Cond.instantiable RX7 10 ∈ lw_all := lw_s1 (i := 61) (by decide +kernel) (by decide +kernel)
theorem q98 : Cond.methodLink RX8 21 yX7_init ∈ lw_all := lw_s1 (i := 62) (by decide +kernel) (by decide +kernel)
theorem q99 : Cond.instanceMethod yX7_init ∈ lw_all := lw_s1 (i := 63) (by decide +kernel) (by decide +kernel)
theorem q100 : Cond.code yX7_init prog_9_method_1_code 4 (Option.none : Option Jvm.ClassFile.FieldType) ∈ lw_all := lw_s1 (i := 64) (by rfl) (by rfl)
theorem q101 : Cond.methodLink RX7 3 ⟨"java/lang/Object", "<init>", "()V"⟩ ∈ lw_all := lw_s1 (i := 65) (by decide +kernel) (by decide +kernel)
theorem q102 : Cond.classLink RX7 9 RJx4a65c ∈ lw_all := lw_s1 (i := 66) (by decide +kernel) (by decide +kernel)
theorem q103 : Cond.methodLink RX7 11 yJx4a65c_init_da8c8 ∈ lw_all := lw_s1 (i := 67) (by decide +kernel) (by decide +kernel)
theorem q104 : Cond.classLink RX7 21 RX2 ∈ lw_all := lw_s1 (i := 68) (by decide +kernel) (by decide +kernel)
theorem q106 : Cond.instantiable RX2 17 ∈ lw_all := lw_s1 (i := 70) (by decide +kernel) (by decide +kernel)
theorem q107 : Cond.methodLink RX7 33 yX2_init ∈ lw_all := lw_s1 (i := 71) (by decide +kernel) (by decide +kernel)
theorem q108 : Cond.instanceMethod yX2_init ∈ lw_all := lw_s1 (i := 72) (by decide +kernel) (by decide +kernel)
theorem q109 : Cond.code yX2_init prog_4_method_1_code 2 (Option.none : Option Jvm.ClassFile.FieldType) ∈ lw_all := lw_s1 (i := 73) (by rfl) (by rfl)
theorem q110 : Cond.methodLink RX2 3 ⟨"java/lang/Object", "<init>", "()V"⟩ ∈ lw_all := lw_s1 (i := 74) (by decide +kernel) (by decide +kernel)
theorem q111 : Cond.fieldLink RX2 28 "Sandglass$Proc" "number" "I" ∈ lw_all := lw_s1 (i := 75) (by decide +kernel) (by decide +kernel)
theorem q112 : Cond.fieldLink RX8 140 "Sandglass$Proc" "number" "I" ∈ lw_all := lw_s1 (i := 76) (by decide +kernel) (by decide +kernel)
theorem q113 : Cond.fieldLink RX2 31 "Sandglass$Proc" "script" "LSandglass$Script;" ∈ lw_all := lw_s1 (i := 77) (by decide +kernel) (by decide +kernel)
theorem q114 : Cond.fieldLink RX7 78 "Sandglass$Proc" "script" "LSandglass$Script;" ∈ lw_all := lw_s1 (i := 78) (by decide +kernel) (by decide +kernel)
theorem q115 : Cond.fieldLink RX2 35 "Sandglass$Proc" "rank" "I" ∈ lw_all := lw_s1 (i := 79) (by decide +kernel) (by decide +kernel)
theorem q116 : Cond.fieldLink RX7 82 "Sandglass$Proc" "rank" "I" ∈ lw_all := lw_s1 (i := 80) (by decide +kernel) (by decide +kernel)
theorem q117 : Cond.fieldLink RX8 198 "Sandglass$Proc" "rank" "I" ∈ lw_all := lw_s1 (i := 81) (by decide +kernel) (by decide +kernel)
theorem q118 : Cond.fieldLink RX2 38 "Sandglass$Proc" "place" "I" ∈ lw_all := lw_s1 (i := 82) (by decide +kernel) (by decide +kernel)
theorem q119 : Cond.fieldLink RX7 110 "Sandglass$Proc" "place" "I" ∈ lw_all := lw_s1 (i := 83) (by decide +kernel) (by decide +kernel)
theorem q120 : Cond.fieldLink RX8 195 "Sandglass$Proc" "place" "I" ∈ lw_all := lw_s1 (i := 84) (by decide +kernel) (by decide +kernel)
theorem q121 : Cond.fieldLink RX2 41 "Sandglass$Proc" "mark" "I" ∈ lw_all := lw_s1 (i := 85) (by decide +kernel) (by decide +kernel)
theorem q122 : Cond.fieldLink RX7 85 "Sandglass$Proc" "mark" "I" ∈ lw_all := lw_s1 (i := 86) (by decide +kernel) (by decide +kernel)
theorem q123 : Cond.fieldLink RX8 201 "Sandglass$Proc" "mark" "I" ∈ lw_all := lw_s1 (i := 87) (by decide +kernel) (by decide +kernel)
theorem q124 : Cond.fieldLink RX2 44 "Sandglass$Proc" "rest" "I" ∈ lw_all := lw_s1 (i := 88) (by decide +kernel) (by decide +kernel)
theorem q125 : Cond.fieldLink RX7 101 "Sandglass$Proc" "rest" "I" ∈ lw_all := lw_s1 (i := 89) (by decide +kernel) (by decide +kernel)
theorem q126 : Cond.fieldLink RX8 164 "Sandglass$Proc" "rest" "I" ∈ lw_all := lw_s1 (i := 90) (by decide +kernel) (by decide +kernel)
theorem q127 : Cond.fieldLink RX2 47 "Sandglass$Proc" "state" "I" ∈ lw_all := lw_s1 (i := 91) (by decide +kernel) (by decide +kernel)
theorem q128 : Cond.fieldLink RX7 92 "Sandglass$Proc" "state" "I" ∈ lw_all := lw_s1 (i := 92) (by decide +kernel) (by decide +kernel)
theorem q129 : Cond.fieldLink RX8 155 "Sandglass$Proc" "state" "I" ∈ lw_all := lw_s1 (i := 93) (by decide +kernel) (by decide +kernel)
theorem q130 : Cond.fieldLink RX2 9 "Sandglass$Proc" "eventTime" "I" ∈ lw_all := lw_s1 (i := 94) (by decide +kernel) (by decide +kernel)
theorem q131 : Cond.fieldLink RX7 95 "Sandglass$Proc" "eventTime" "I" ∈ lw_all := lw_s1 (i := 95) (by decide +kernel) (by decide +kernel)
theorem q132 : Cond.fieldLink RX8 189 "Sandglass$Proc" "eventTime" "I" ∈ lw_all := lw_s1 (i := 96) (by decide +kernel) (by decide +kernel)
theorem q133 : Cond.fieldLink RX2 50 "Sandglass$Proc" "eventOrder" "I" ∈ lw_all := lw_s1 (i := 97) (by decide +kernel) (by decide +kernel)
theorem q134 : Cond.fieldLink RX7 98 "Sandglass$Proc" "eventOrder" "I" ∈ lw_all := lw_s1 (i := 98) (by decide +kernel) (by decide +kernel)
theorem q135 : Cond.fieldLink RX2 15 "Sandglass$Proc" "row" "I" ∈ lw_all := lw_s1 (i := 99) (by decide +kernel) (by decide +kernel)
theorem q136 : Cond.fieldLink RX7 240 "Sandglass$Proc" "row" "I" ∈ lw_all := lw_s1 (i := 100) (by decide +kernel) (by decide +kernel)
theorem q137 : Cond.fieldLink RX2 53 "Sandglass$Proc" "urgency" "I" ∈ lw_all := lw_s1 (i := 101) (by decide +kernel) (by decide +kernel)
theorem q138 : Cond.fieldLink RX7 259 "Sandglass$Proc" "urgency" "I" ∈ lw_all := lw_s1 (i := 102) (by decide +kernel) (by decide +kernel)
theorem q139 : Cond.fieldLink RX2 56 "Sandglass$Proc" "cameAs" "I" ∈ lw_all := lw_s1 (i := 103) (by decide +kernel) (by decide +kernel)
theorem q140 : Cond.fieldLink RX7 262 "Sandglass$Proc" "cameAs" "I" ∈ lw_all := lw_s1 (i := 104) (by decide +kernel) (by decide +kernel)
theorem q141 : Cond.fieldLink RX2 59 "Sandglass$Proc" "wants" "I" ∈ lw_all := lw_s1 (i := 105) (by decide +kernel) (by decide +kernel)
theorem q142 : Cond.fieldLink RX7 309 "Sandglass$Proc" "wants" "I" ∈ lw_all := lw_s1 (i := 106) (by decide +kernel) (by decide +kernel)
theorem q143 : Cond.fieldLink RX2 62 "Sandglass$Proc" "isThrownOut" "Z" ∈ lw_all := lw_s1 (i := 107) (by decide +kernel) (by decide +kernel)
theorem q144 : Cond.fieldLink RX7 312 "Sandglass$Proc" "isThrownOut" "Z" ∈ lw_all := lw_s1 (i := 108) (by decide +kernel) (by decide +kernel)
theorem q145 : Cond.fieldLink RX2 18 "Sandglass$Proc" "counters" "[I" ∈ lw_all := lw_s1 (i := 109) (by decide +kernel) (by decide +kernel)
theorem q146 : Cond.fieldLink RX7 246 "Sandglass$Proc" "counters" "[I" ∈ lw_all := lw_s1 (i := 110) (by decide +kernel) (by decide +kernel)
theorem q147 : Cond.fieldLink RX2 22 "Sandglass$Proc" "held" "[I" ∈ lw_all := lw_s1 (i := 111) (by decide +kernel) (by decide +kernel)
theorem q148 : Cond.fieldLink RX8 208 "Sandglass$Proc" "held" "[I" ∈ lw_all := lw_s1 (i := 112) (by decide +kernel) (by decide +kernel)
theorem q149 : Cond.fieldLink RX7 316 "Sandglass$Proc" "held" "[I" ∈ lw_all := lw_s1 (i := 113) (by decide +kernel) (by decide +kernel)
theorem q150 : Cond.fieldLink RX2 25 "Sandglass$Proc" "gotAs" "[I" ∈ lw_all := lw_s1 (i := 114) (by decide +kernel) (by decide +kernel)
theorem q151 : Cond.fieldLink RX7 319 "Sandglass$Proc" "gotAs" "[I" ∈ lw_all := lw_s1 (i := 115) (by decide +kernel) (by decide +kernel)
theorem q187 : Cond.arrayClass ClassFile.FieldType.int ∈ lw_all := lw_s1 (i := 151) (by decide +kernel) (by decide +kernel)
theorem q188 : Cond.fieldLink RX7 27 "Sandglass$World" "scripts" "Ljava/util/ArrayList;" ∈ lw_all := lw_s1 (i := 152) (by decide +kernel) (by decide +kernel)
theorem q189 : Cond.fieldLink RX7 30 "Sandglass$World" "tallies" "Ljava/util/ArrayList;" ∈ lw_all := lw_s1 (i := 153) (by decide +kernel) (by decide +kernel)
theorem q190 : Cond.fieldLink RX7 12 "Sandglass$World" "resources" "Ljava/util/ArrayList;" ∈ lw_all := lw_s1 (i := 154) (by decide +kernel) (by decide +kernel)
theorem q191 : Cond.fieldLink RX8 42 "Sandglass$World" "resources" "Ljava/util/ArrayList;" ∈ lw_all := lw_s1 (i := 155) (by decide +kernel) (by decide +kernel)
theorem q192 : Cond.fieldLink RX7 18 "Sandglass$World" "stores" "Ljava/util/ArrayList;" ∈ lw_all := lw_s1 (i := 156) (by decide +kernel) (by decide +kernel)
theorem q193 : Cond.fieldLink RX8 65 "Sandglass$World" "stores" "Ljava/util/ArrayList;" ∈ lw_all := lw_s1 (i := 157) (by decide +kernel) (by decide +kernel)
theorem q194 : Cond.fieldLink RX7 23 "Sandglass$World" "processes" "[LSandglass$Proc;" ∈ lw_all := lw_s1 (i := 158) (by decide +kernel) (by decide +kernel)
theorem q195 : Cond.fieldLink RX7 36 "Sandglass$World" "started" "I" ∈ lw_all := lw_s1 (i := 159) (by decide +kernel) (by decide +kernel)
theorem q196 : Cond.fieldLink RX8 125 "Sandglass$World" "started" "I" ∈ lw_all := lw_s1 (i := 160) (by decide +kernel) (by decide +kernel)
theorem q197 : Cond.fieldLink RX7 40 "Sandglass$World" "time" "I" ∈ lw_all := lw_s1 (i := 161) (by decide +kernel) (by decide +kernel)
theorem q198 : Cond.fieldLink RX8 180 "Sandglass$World" "time" "I" ∈ lw_all := lw_s1 (i := 162) (by decide +kernel) (by decide +kernel)
theorem q199 : Cond.fieldLink RX7 43 "Sandglass$World" "luck" "I" ∈ lw_all := lw_s1 (i := 163) (by decide +kernel) (by decide +kernel)
theorem q200 : Cond.fieldLink RX8 120 "Sandglass$World" "luck" "I" ∈ lw_all := lw_s1 (i := 164) (by decide +kernel) (by decide +kernel)
end
section
theorem q201 : Cond.fieldLink RX7 46 "Sandglass$World" "done" "I" ∈ lw_all := lw_s1 (i := 165) (by decide +kernel) (by decide +kernel)
theorem q202 : Cond.fieldLink RX8 192 "Sandglass$World" "done" "I" ∈ lw_all := lw_s1 (i := 166) (by decide +kernel) (by decide +kernel)
theorem q203 : Cond.fieldLink RX7 49 "Sandglass$World" "order" "I" ∈ lw_all := lw_s1 (i := 167) (by decide +kernel) (by decide +kernel)
theorem q225 : Cond.fieldLink RX8 12 "Sandglass" "scripts" "Ljava/util/ArrayList;" ∈ lw_all := lw_s1 (i := 189) (by decide +kernel) (by decide +kernel)
theorem q226 : Cond.fieldLink RX8 16 "Sandglass" "tallies" "Ljava/util/ArrayList;" ∈ lw_all := lw_s1 (i := 190) (by decide +kernel) (by decide +kernel)
theorem q227 : Cond.fieldLink RX8 24 "Sandglass" "world" "LSandglass$World;" ∈ lw_all := lw_s1 (i := 191) (by decide +kernel) (by decide +kernel)
theorem q228 : Cond.fieldLink RX8 28 "Sandglass" "trial" "LSandglass$World;" ∈ lw_all := lw_s1 (i := 192) (by decide +kernel) (by decide +kernel)
theorem q238 : Cond.methodLink RL 114 yX8_setLuck ∈ lw_all := lw_s1 (i := 202) (by decide +kernel) (by decide +kernel)
theorem q239 : Cond.instanceMethod yX8_setLuck ∈ lw_all := lw_s1 (i := 203) (by decide +kernel) (by decide +kernel)
theorem q240 : Cond.selects RX8 yX8_setLuck yX8_setLuck ∈ lw_all := lw_s1 (i := 204) (by decide +kernel) (by decide +kernel)
theorem q241 : Cond.code yX8_setLuck prog_1_method_8_code 3 (Option.some ClassFile.FieldType.int) ∈ lw_all := lw_s1 (i := 205) (by rfl) (by rfl)
theorem q242 : Cond.methodLink RX8 31 yX8_isIn ∈ lw_all := lw_s1 (i := 206) (by decide +kernel) (by decide +kernel)
theorem q243 : Cond.static yX8_isIn ∈ lw_all := lw_s1 (i := 207) (by decide +kernel) (by decide +kernel)
theorem q244 : Cond.code yX8_isIn prog_1_method_50_code 3 (Option.some ClassFile.FieldType.boolean) ∈ lw_all := lw_s1 (i := 208) (by rfl) (by rfl)
theorem q312 : Cond.arrayClass ClassFile.FieldType.byte ∈ lw_all := lw_s2 (i := 36) (by decide +kernel) (by decide +kernel)
theorem q313 : Cond.methodLink RL 117 yX8_start ∈ lw_all := lw_s2 (i := 37) (by decide +kernel) (by decide +kernel)
theorem q314 : Cond.instanceMethod yX8_start ∈ lw_all := lw_s2 (i := 38) (by decide +kernel) (by decide +kernel)
theorem q315 : Cond.selects RX8 yX8_start yX8_start ∈ lw_all := lw_s2 (i := 39) (by decide +kernel) (by decide +kernel)
theorem q316 : Cond.code yX8_start prog_1_method_9_code 5 (Option.some ClassFile.FieldType.int) ∈ lw_all := lw_s2 (i := 40) (by rfl) (by rfl)
theorem q317 : Cond.methodLink RX8 87 yX8_demandScript ∈ lw_all := lw_s2 (i := 41) (by decide +kernel) (by decide +kernel)
theorem q319 : Cond.instanceMethod yX8_demandScript ∈ lw_all := lw_s2 (i := 43) (by decide +kernel) (by decide +kernel)
theorem q320 : Cond.code yX8_demandScript prog_1_method_56_code 3 (Option.some (ClassFile.FieldType.object "Sandglass$Script")) ∈ lw_all := lw_s2 (i := 44) (by rfl) (by rfl)
theorem q321 : Cond.methodLink RX8 410 yX7_script ∈ lw_all := lw_s2 (i := 45) (by decide +kernel) (by decide +kernel)
theorem q322 : Cond.instanceMethod yX7_script ∈ lw_all := lw_s2 (i := 46) (by decide +kernel) (by decide +kernel)
theorem q323 : Cond.selects RX7 yX7_script yX7_script ∈ lw_all := lw_s2 (i := 47) (by decide +kernel) (by decide +kernel)
theorem q324 : Cond.code yX7_script prog_9_method_6_code 2 (Option.some (ClassFile.FieldType.object "Sandglass$Script")) ∈ lw_all := lw_s2 (i := 48) (by rfl) (by rfl)
theorem q325 : Cond.methodLink RX7 56 yJx4a65c_size_8abf5 ∈ lw_all := lw_s2 (i := 49) (by decide +kernel) (by decide +kernel)
theorem q326 : Cond.instanceMethod yJx4a65c_size_8abf5 ∈ lw_all := lw_s2 (i := 50) (by decide +kernel) (by decide +kernel)
theorem q327 : Cond.selects RJx4a65c yJx4a65c_size_8abf5 yJx4a65c_size_8abf5 ∈ lw_all := lw_s2 (i := 51) (by decide +kernel) (by decide +kernel)
theorem q328 : Cond.code yJx4a65c_size_8abf5 prog_31_method_8_code 1 (Option.some ClassFile.FieldType.int) ∈ lw_all := lw_s2 (i := 52) (by rfl) (by rfl)
theorem q329 : Cond.methodLink RX7 60 yJx4a65c_get_915e3 ∈ lw_all := lw_s2 (i := 53) (by decide +kernel) (by decide +kernel)
theorem q330 : Cond.instanceMethod yJx4a65c_get_915e3 ∈ lw_all := lw_s2 (i := 54) (by decide +kernel) (by decide +kernel)
theorem q331 : Cond.selects RJx4a65c yJx4a65c_get_915e3 yJx4a65c_get_915e3 ∈ lw_all := lw_s2 (i := 55) (by decide +kernel) (by decide +kernel)
theorem q332 : Cond.code yJx4a65c_get_915e3 prog_31_method_20_code 2 (Option.some (ClassFile.FieldType.object "java/lang/Object")) ∈ lw_all := lw_s2 (i := 56) (by rfl) (by rfl)
theorem q333 : Cond.methodLink RJx4a65c 118 yJ15_checkIndex_7cf53 ∈ lw_all := lw_s2 (i := 57) (by decide +kernel) (by decide +kernel)
theorem q334 : Cond.static yJ15_checkIndex_7cf53 ∈ lw_all := lw_s2 (i := 58) (by decide +kernel) (by decide +kernel)
theorem q335 : Cond.code yJ15_checkIndex_7cf53 prog_35_method_17_code 2 (Option.some ClassFile.FieldType.int) ∈ lw_all := lw_s2 (i := 59) (by rfl) (by rfl)
theorem q336 : Cond.methodLink RJ15 105 yJ3_checkIndex_8e157 ∈ lw_all := lw_s2 (i := 60) (by decide +kernel) (by decide +kernel)
theorem q337 : Cond.static yJ3_checkIndex_8e157 ∈ lw_all := lw_s2 (i := 61) (by decide +kernel) (by decide +kernel)
theorem q338 : Cond.code yJ3_checkIndex_8e157 prog_39_method_11_code 3 (Option.some ClassFile.FieldType.int) ∈ lw_all := lw_s2 (i := 62) (by rfl) (by rfl)
theorem q339 : Cond.methodLink RJx4a65c 123 yJx4a65c_elementData_915e3 ∈ lw_all := lw_s2 (i := 63) (by decide +kernel) (by decide +kernel)
theorem q340 : Cond.instanceMethod yJx4a65c_elementData_915e3 ∈ lw_all := lw_s2 (i := 64) (by decide +kernel) (by decide +kernel)
theorem q341 : Cond.selects RJx4a65c yJx4a65c_elementData_915e3 yJx4a65c_elementData_915e3 ∈ lw_all := lw_s2 (i := 65) (by decide +kernel) (by decide +kernel)
theorem q342 : Cond.code yJx4a65c_elementData_915e3 prog_31_method_18_code 2 (Option.some (ClassFile.FieldType.object "java/lang/Object")) ∈ lw_all := lw_s2 (i := 66) (by rfl) (by rfl)
theorem q343 : Cond.classLink RX7 76 RX4 ∈ lw_all := lw_s2 (i := 67) (by decide +kernel) (by decide +kernel)
theorem q377 : Cond.methodLink RX8 130 yX7_begin ∈ lw_all := lw_s2 (i := 101) (by decide +kernel) (by decide +kernel)
theorem q378 : Cond.instanceMethod yX7_begin ∈ lw_all := lw_s2 (i := 102) (by decide +kernel) (by decide +kernel)
theorem q379 : Cond.selects RX7 yX7_begin yX7_begin ∈ lw_all := lw_s2 (i := 103) (by decide +kernel) (by decide +kernel)
theorem q380 : Cond.code yX7_begin prog_9_method_9_code 5 (Option.none : Option Jvm.ClassFile.FieldType) ∈ lw_all := lw_s2 (i := 104) (by rfl) (by rfl)
theorem q381 : Cond.methodLink RX7 88 yX7_schedule ∈ lw_all := lw_s2 (i := 105) (by decide +kernel) (by decide +kernel)
theorem q382 : Cond.instanceMethod yX7_schedule ∈ lw_all := lw_s2 (i := 106) (by decide +kernel) (by decide +kernel)
theorem q383 : Cond.selects RX7 yX7_schedule yX7_schedule ∈ lw_all := lw_s2 (i := 107) (by decide +kernel) (by decide +kernel)
theorem q384 : Cond.code yX7_schedule prog_9_method_10_code 4 (Option.none : Option Jvm.ClassFile.FieldType) ∈ lw_all := lw_s2 (i := 108) (by rfl) (by rfl)
theorem q385 : Cond.methodLink RL 133 yX8_step ∈ lw_all := lw_s2 (i := 109) (by decide +kernel) (by decide +kernel)
theorem q386 : Cond.instanceMethod yX8_step ∈ lw_all := lw_s2 (i := 110) (by decide +kernel) (by decide +kernel)
theorem q387 : Cond.selects RX8 yX8_step yX8_step ∈ lw_all := lw_s2 (i := 111) (by decide +kernel) (by decide +kernel)
theorem q388 : Cond.code yX8_step prog_1_method_10_code 2 (Option.some ClassFile.FieldType.int) ∈ lw_all := lw_s2 (i := 112) (by rfl) (by rfl)
theorem q389 : Cond.methodLink RX8 134 yX7_happen ∈ lw_all := lw_s2 (i := 113) (by decide +kernel) (by decide +kernel)
theorem q390 : Cond.instanceMethod yX7_happen ∈ lw_all := lw_s2 (i := 114) (by decide +kernel) (by decide +kernel)
theorem q391 : Cond.selects RX7 yX7_happen yX7_happen ∈ lw_all := lw_s2 (i := 115) (by decide +kernel) (by decide +kernel)
theorem q392 : Cond.code yX7_happen prog_9_method_19_code 4 (Option.some (ClassFile.FieldType.object "Sandglass$Proc")) ∈ lw_all := lw_s2 (i := 116) (by rfl) (by rfl)
theorem q393 : Cond.methodLink RX7 121 yX7_nextToGo ∈ lw_all := lw_s2 (i := 117) (by decide +kernel) (by decide +kernel)
theorem q394 : Cond.instanceMethod yX7_nextToGo ∈ lw_all := lw_s2 (i := 118) (by decide +kernel) (by decide +kernel)
theorem q395 : Cond.selects RX7 yX7_nextToGo yX7_nextToGo ∈ lw_all := lw_s2 (i := 119) (by decide +kernel) (by decide +kernel)
theorem q396 : Cond.code yX7_nextToGo prog_9_method_14_code 6 (Option.some (ClassFile.FieldType.object "Sandglass$Proc")) ∈ lw_all := lw_s2 (i := 120) (by rfl) (by rfl)
theorem q397 : Cond.methodLink RX7 117 yX2_goesBefore ∈ lw_all := lw_s2 (i := 121) (by decide +kernel) (by decide +kernel)
theorem q398 : Cond.instanceMethod yX2_goesBefore ∈ lw_all := lw_s2 (i := 122) (by decide +kernel) (by decide +kernel)
theorem q399 : Cond.selects RX2 yX2_goesBefore yX2_goesBefore ∈ lw_all := lw_s2 (i := 123) (by decide +kernel) (by decide +kernel)
theorem q400 : Cond.code yX2_goesBefore prog_4_method_5_code 2 (Option.some ClassFile.FieldType.boolean) ∈ lw_all := lw_s2 (i := 124) (by rfl) (by rfl)
theorem q401 : Cond.methodLink RX7 157 yX7_goTo ∈ lw_all := lw_s2 (i := 125) (by decide +kernel) (by decide +kernel)
theorem q402 : Cond.instanceMethod yX7_goTo ∈ lw_all := lw_s2 (i := 126) (by decide +kernel) (by decide +kernel)
theorem q403 : Cond.selects RX7 yX7_goTo yX7_goTo ∈ lw_all := lw_s2 (i := 127) (by decide +kernel) (by decide +kernel)
theorem q404 : Cond.code yX7_goTo prog_9_method_16_code 5 (Option.none : Option Jvm.ClassFile.FieldType) ∈ lw_all := lw_s2 (i := 128) (by rfl) (by rfl)
theorem q405 : Cond.classLink RX7 64 RX3 ∈ lw_all := lw_s2 (i := 129) (by decide +kernel) (by decide +kernel)
theorem q406 : Cond.methodLink RX7 140 yX7_countIn ∈ lw_all := lw_s2 (i := 130) (by decide +kernel) (by decide +kernel)
theorem q407 : Cond.instanceMethod yX7_countIn ∈ lw_all := lw_s2 (i := 131) (by decide +kernel) (by decide +kernel)
theorem q408 : Cond.selects RX7 yX7_countIn yX7_countIn ∈ lw_all := lw_s2 (i := 132) (by decide +kernel) (by decide +kernel)
theorem q409 : Cond.code yX7_countIn prog_9_method_28_code 7 (Option.some ClassFile.FieldType.int) ∈ lw_all := lw_s2 (i := 133) (by rfl) (by rfl)
theorem q410 : Cond.classLink RX7 69 RX5 ∈ lw_all := lw_s2 (i := 134) (by decide +kernel) (by decide +kernel)
theorem q411 : Cond.methodLink RX7 168 yX2_nextInstruction ∈ lw_all := lw_s2 (i := 135) (by decide +kernel) (by decide +kernel)
theorem q412 : Cond.instanceMethod yX2_nextInstruction ∈ lw_all := lw_s2 (i := 136) (by decide +kernel) (by decide +kernel)
theorem q413 : Cond.selects RX2 yX2_nextInstruction yX2_nextInstruction ∈ lw_all := lw_s2 (i := 137) (by decide +kernel) (by decide +kernel)
theorem q414 : Cond.code yX2_nextInstruction prog_4_method_4_code 1 (Option.some (ClassFile.FieldType.object "Sandglass$Instruction")) ∈ lw_all := lw_s2 (i := 138) (by rfl) (by rfl)
theorem q415 : Cond.methodLink RX2 70 yX4_instructionAt ∈ lw_all := lw_s2 (i := 139) (by decide +kernel) (by decide +kernel)
theorem q416 : Cond.instanceMethod yX4_instructionAt ∈ lw_all := lw_s2 (i := 140) (by decide +kernel) (by decide +kernel)
theorem q417 : Cond.selects RX4 yX4_instructionAt yX4_instructionAt ∈ lw_all := lw_s2 (i := 141) (by decide +kernel) (by decide +kernel)
theorem q418 : Cond.code yX4_instructionAt prog_6_method_2_code 2 (Option.some (ClassFile.FieldType.object "Sandglass$Instruction")) ∈ lw_all := lw_s2 (i := 142) (by rfl) (by rfl)
theorem q419 : Cond.methodLink RX4 22 yJx4a65c_size_8abf5 ∈ lw_all := lw_s2 (i := 143) (by decide +kernel) (by decide +kernel)
theorem q420 : Cond.methodLink RX4 26 yJx4a65c_get_915e3 ∈ lw_all := lw_s2 (i := 144) (by decide +kernel) (by decide +kernel)
theorem q421 : Cond.classLink RX4 30 RX1 ∈ lw_all := lw_s2 (i := 145) (by decide +kernel) (by decide +kernel)
theorem q422 : Cond.methodLink RX7 172 yX7_obey ∈ lw_all := lw_s2 (i := 146) (by decide +kernel) (by decide +kernel)
theorem q424 : Cond.instanceMethod yX7_obey ∈ lw_all := lw_s2 (i := 148) (by decide +kernel) (by decide +kernel)
theorem q425 : Cond.code yX7_obey prog_9_method_20_code 3 (Option.none : Option Jvm.ClassFile.FieldType) ∈ lw_all := lw_s2 (i := 149) (by rfl) (by rfl)
theorem q426 : Cond.methodLink RX7 191 yX7_drawBelow ∈ lw_all := lw_s2 (i := 150) (by decide +kernel) (by decide +kernel)
theorem q428 : Cond.instanceMethod yX7_drawBelow ∈ lw_all := lw_s2 (i := 152) (by decide +kernel) (by decide +kernel)
theorem q429 : Cond.code yX7_drawBelow prog_9_method_21_code 2 (Option.some ClassFile.FieldType.int) ∈ lw_all := lw_s2 (i := 153) (by rfl) (by rfl)
theorem q430 : Cond.methodLink RX7 194 yX7_resource ∈ lw_all := lw_s2 (i := 154) (by decide +kernel) (by decide +kernel)
theorem q431 : Cond.instanceMethod yX7_resource ∈ lw_all := lw_s2 (i := 155) (by decide +kernel) (by decide +kernel)
theorem q432 : Cond.selects RX7 yX7_resource yX7_resource ∈ lw_all := lw_s2 (i := 156) (by decide +kernel) (by decide +kernel)
theorem q433 : Cond.code yX7_resource prog_9_method_3_code 2 (Option.some (ClassFile.FieldType.object "Sandglass$Resource")) ∈ lw_all := lw_s2 (i := 157) (by rfl) (by rfl)
theorem q434 : Cond.methodLink RX7 198 yX7_seize ∈ lw_all := lw_s2 (i := 158) (by decide +kernel) (by decide +kernel)
theorem q436 : Cond.instanceMethod yX7_seize ∈ lw_all := lw_s2 (i := 160) (by decide +kernel) (by decide +kernel)
theorem q437 : Cond.code yX7_seize prog_9_method_32_code 7 (Option.none : Option Jvm.ClassFile.FieldType) ∈ lw_all := lw_s2 (i := 161) (by rfl) (by rfl)
theorem q438 : Cond.methodLink RX7 278 yX7_queueUp ∈ lw_all := lw_s2 (i := 162) (by decide +kernel) (by decide +kernel)
theorem q440 : Cond.instanceMethod yX7_queueUp ∈ lw_all := lw_s2 (i := 164) (by decide +kernel) (by decide +kernel)
theorem q441 : Cond.code yX7_queueUp prog_9_method_33_code 5 (Option.none : Option Jvm.ClassFile.FieldType) ∈ lw_all := lw_s2 (i := 165) (by rfl) (by rfl)
theorem q442 : Cond.methodLink RX7 212 yX7_enter ∈ lw_all := lw_s2 (i := 166) (by decide +kernel) (by decide +kernel)
theorem q444 : Cond.instanceMethod yX7_enter ∈ lw_all := lw_s2 (i := 168) (by decide +kernel) (by decide +kernel)
theorem q445 : Cond.code yX7_enter prog_9_method_26_code 4 (Option.none : Option Jvm.ClassFile.FieldType) ∈ lw_all := lw_s2 (i := 169) (by rfl) (by rfl)
theorem q446 : Cond.methodLink RX7 237 yX7_firstIn ∈ lw_all := lw_s2 (i := 170) (by decide +kernel) (by decide +kernel)
theorem q448 : Cond.instanceMethod yX7_firstIn ∈ lw_all := lw_s2 (i := 172) (by decide +kernel) (by decide +kernel)
theorem q449 : Cond.code yX7_firstIn prog_9_method_29_code 7 (Option.some (ClassFile.FieldType.object "Sandglass$Proc")) ∈ lw_all := lw_s2 (i := 173) (by rfl) (by rfl)
theorem q450 : Cond.methodLink RX7 271 yX2_standsBefore ∈ lw_all := lw_s2 (i := 174) (by decide +kernel) (by decide +kernel)
theorem q451 : Cond.instanceMethod yX2_standsBefore ∈ lw_all := lw_s2 (i := 175) (by decide +kernel) (by decide +kernel)
theorem q452 : Cond.selects RX2 yX2_standsBefore yX2_standsBefore ∈ lw_all := lw_s2 (i := 176) (by decide +kernel) (by decide +kernel)
theorem q453 : Cond.code yX2_standsBefore prog_4_method_6_code 2 (Option.some ClassFile.FieldType.boolean) ∈ lw_all := lw_s2 (i := 177) (by rfl) (by rfl)
theorem q454 : Cond.methodLink RX7 285 yX7_unitsOfVictims ∈ lw_all := lw_s2 (i := 178) (by decide +kernel) (by decide +kernel)
theorem q456 : Cond.instanceMethod yX7_unitsOfVictims ∈ lw_all := lw_s2 (i := 180) (by decide +kernel) (by decide +kernel)
theorem q457 : Cond.code yX7_unitsOfVictims prog_9_method_36_code 8 (Option.some ClassFile.FieldType.int) ∈ lw_all := lw_s2 (i := 181) (by rfl) (by rfl)
theorem q458 : Cond.methodLink RX7 322 yX7_unitsToTake ∈ lw_all := lw_s2 (i := 182) (by decide +kernel) (by decide +kernel)
theorem q460 : Cond.instanceMethod yX7_unitsToTake ∈ lw_all := lw_s2 (i := 184) (by decide +kernel) (by decide +kernel)
theorem q461 : Cond.code yX7_unitsToTake prog_9_method_35_code 5 (Option.some ClassFile.FieldType.int) ∈ lw_all := lw_s2 (i := 185) (by rfl) (by rfl)
theorem q463 : Cond.static yX8_at ∈ lw_all := lw_s2 (i := 187) (by decide +kernel) (by decide +kernel)
theorem q464 : Cond.code yX8_at prog_1_method_58_code 2 (Option.some ClassFile.FieldType.int) ∈ lw_all := lw_s2 (i := 188) (by rfl) (by rfl)
theorem q465 : Cond.methodLink RX7 289 yX7_nextVictim ∈ lw_all := lw_s2 (i := 189) (by decide +kernel) (by decide +kernel)
theorem q467 : Cond.instanceMethod yX7_nextVictim ∈ lw_all := lw_s2 (i := 191) (by decide +kernel) (by decide +kernel)
theorem q468 : Cond.code yX7_nextVictim prog_9_method_37_code 8 (Option.some (ClassFile.FieldType.object "Sandglass$Proc")) ∈ lw_all := lw_s2 (i := 192) (by rfl) (by rfl)
theorem q469 : Cond.methodLink RX7 326 yX2_yieldsBefore ∈ lw_all := lw_s2 (i := 193) (by decide +kernel) (by decide +kernel)
theorem q470 : Cond.instanceMethod yX2_yieldsBefore ∈ lw_all := lw_s2 (i := 194) (by decide +kernel) (by decide +kernel)
theorem q471 : Cond.selects RX2 yX2_yieldsBefore yX2_yieldsBefore ∈ lw_all := lw_s2 (i := 195) (by decide +kernel) (by decide +kernel)
theorem q472 : Cond.code yX2_yieldsBefore prog_4_method_7_code 3 (Option.some ClassFile.FieldType.boolean) ∈ lw_all := lw_s2 (i := 196) (by rfl) (by rfl)
theorem q474 : Cond.methodLink RX7 293 yX7_throwOut ∈ lw_all := lw_s2 (i := 198) (by decide +kernel) (by decide +kernel)
theorem q476 : Cond.instanceMethod yX7_throwOut ∈ lw_all := lw_s2 (i := 200) (by decide +kernel) (by decide +kernel)
theorem q477 : Cond.code yX7_throwOut prog_9_method_38_code 4 (Option.none : Option Jvm.ClassFile.FieldType) ∈ lw_all := lw_s2 (i := 201) (by rfl) (by rfl)
theorem q479 : Cond.static yX8_set ∈ lw_all := lw_s2 (i := 203) (by decide +kernel) (by decide +kernel)
theorem q480 : Cond.code yX8_set prog_1_method_59_code 3 (Option.none : Option Jvm.ClassFile.FieldType) ∈ lw_all := lw_s2 (i := 204) (by rfl) (by rfl)
theorem q481 : Cond.methodLink RX7 300 yJ9_max_7cf53 ∈ lw_all := lw_s2 (i := 205) (by decide +kernel) (by decide +kernel)
theorem q482 : Cond.static yJ9_max_7cf53 ∈ lw_all := lw_s2 (i := 206) (by decide +kernel) (by decide +kernel)
theorem q483 : Cond.code yJ9_max_7cf53 prog_24_method_65_code 2 (Option.some ClassFile.FieldType.int) ∈ lw_all := lw_s2 (i := 207) (by rfl) (by rfl)
theorem q484 : Cond.methodLink RX7 306 yX7_giveUnits ∈ lw_all := lw_s2 (i := 208) (by decide +kernel) (by decide +kernel)
theorem q486 : Cond.instanceMethod yX7_giveUnits ∈ lw_all := lw_s2 (i := 210) (by decide +kernel) (by decide +kernel)
theorem q487 : Cond.code yX7_giveUnits prog_9_method_34_code 3 (Option.none : Option Jvm.ClassFile.FieldType) ∈ lw_all := lw_s2 (i := 211) (by rfl) (by rfl)
theorem q488 : Cond.methodLink RX7 265 yX7_serve ∈ lw_all := lw_s2 (i := 212) (by decide +kernel) (by decide +kernel)
theorem q490 : Cond.instanceMethod yX7_serve ∈ lw_all := lw_s2 (i := 214) (by decide +kernel) (by decide +kernel)
theorem q491 : Cond.code yX7_serve prog_9_method_40_code 4 (Option.none : Option Jvm.ClassFile.FieldType) ∈ lw_all := lw_s2 (i := 215) (by rfl) (by rfl)
theorem q492 : Cond.methodLink RX7 113 yX7_release ∈ lw_all := lw_s2 (i := 216) (by decide +kernel) (by decide +kernel)
theorem q494 : Cond.instanceMethod yX7_release ∈ lw_all := lw_s2 (i := 218) (by decide +kernel) (by decide +kernel)
theorem q495 : Cond.code yX7_release prog_9_method_39_code 6 (Option.none : Option Jvm.ClassFile.FieldType) ∈ lw_all := lw_s2 (i := 219) (by rfl) (by rfl)
theorem q496 : Cond.methodLink RX7 330 yJ9_min_7cf53 ∈ lw_all := lw_s2 (i := 220) (by decide +kernel) (by decide +kernel)
theorem q497 : Cond.static yJ9_min_7cf53 ∈ lw_all := lw_s2 (i := 221) (by decide +kernel) (by decide +kernel)
end
section
theorem q498 : Cond.code yJ9_min_7cf53 prog_24_method_69_code 2 (Option.some ClassFile.FieldType.int) ∈ lw_all := lw_s2 (i := 222) (by rfl) (by rfl)
theorem q499 : Cond.methodLink RX7 201 yX7_store ∈ lw_all := lw_s2 (i := 223) (by decide +kernel) (by decide +kernel)
theorem q500 : Cond.instanceMethod yX7_store ∈ lw_all := lw_s2 (i := 224) (by decide +kernel) (by decide +kernel)
theorem q501 : Cond.selects RX7 yX7_store yX7_store ∈ lw_all := lw_s2 (i := 225) (by decide +kernel) (by decide +kernel)
theorem q502 : Cond.code yX7_store prog_9_method_4_code 2 (Option.some (ClassFile.FieldType.object "Sandglass$Store")) ∈ lw_all := lw_s2 (i := 226) (by rfl) (by rfl)
theorem q503 : Cond.methodLink RX7 205 yX7_exchange ∈ lw_all := lw_s2 (i := 227) (by decide +kernel) (by decide +kernel)
theorem q505 : Cond.instanceMethod yX7_exchange ∈ lw_all := lw_s2 (i := 229) (by decide +kernel) (by decide +kernel)
theorem q506 : Cond.code yX7_exchange prog_9_method_41_code 7 (Option.none : Option Jvm.ClassFile.FieldType) ∈ lw_all := lw_s2 (i := 230) (by rfl) (by rfl)
theorem q507 : Cond.methodLink RX7 336 yX5_row ∈ lw_all := lw_s2 (i := 231) (by decide +kernel) (by decide +kernel)
theorem q508 : Cond.instanceMethod yX5_row ∈ lw_all := lw_s2 (i := 232) (by decide +kernel) (by decide +kernel)
theorem q509 : Cond.selects RX5 yX5_row yX5_row ∈ lw_all := lw_s2 (i := 233) (by decide +kernel) (by decide +kernel)
theorem q510 : Cond.code yX5_row prog_7_method_3_code 2 (Option.some ClassFile.FieldType.int) ∈ lw_all := lw_s2 (i := 234) (by rfl) (by rfl)
theorem q511 : Cond.methodLink RX7 339 yX5_allows ∈ lw_all := lw_s2 (i := 235) (by decide +kernel) (by decide +kernel)
theorem q512 : Cond.instanceMethod yX5_allows ∈ lw_all := lw_s2 (i := 236) (by decide +kernel) (by decide +kernel)
theorem q513 : Cond.selects RX5 yX5_allows yX5_allows ∈ lw_all := lw_s2 (i := 237) (by decide +kernel) (by decide +kernel)
theorem q514 : Cond.code yX5_allows prog_7_method_4_code 2 (Option.some ClassFile.FieldType.boolean) ∈ lw_all := lw_s2 (i := 238) (by rfl) (by rfl)
theorem q516 : Cond.methodLink RX7 268 yX7_goOnWith ∈ lw_all := lw_s3 (i := 0) (by decide +kernel) (by decide +kernel)
theorem q518 : Cond.instanceMethod yX7_goOnWith ∈ lw_all := lw_s3 (i := 2) (by decide +kernel) (by decide +kernel)
theorem q519 : Cond.code yX7_goOnWith prog_9_method_42_code 4 (Option.none : Option Jvm.ClassFile.FieldType) ∈ lw_all := lw_s3 (i := 3) (by rfl) (by rfl)
theorem q520 : Cond.methodLink RX7 209 yX7_wakeAll ∈ lw_all := lw_s3 (i := 4) (by decide +kernel) (by decide +kernel)
theorem q522 : Cond.instanceMethod yX7_wakeAll ∈ lw_all := lw_s3 (i := 6) (by decide +kernel) (by decide +kernel)
theorem q523 : Cond.code yX7_wakeAll prog_9_method_22_code 4 (Option.none : Option Jvm.ClassFile.FieldType) ∈ lw_all := lw_s3 (i := 7) (by rfl) (by rfl)
theorem q524 : Cond.methodLink RX7 215 yX7_script ∈ lw_all := lw_s3 (i := 8) (by decide +kernel) (by decide +kernel)
theorem q525 : Cond.methodLink RX7 218 yX7_begin ∈ lw_all := lw_s3 (i := 9) (by decide +kernel) (by decide +kernel)
theorem q526 : Cond.methodLink RX7 222 yX7_tally ∈ lw_all := lw_s3 (i := 10) (by decide +kernel) (by decide +kernel)
theorem q527 : Cond.instanceMethod yX7_tally ∈ lw_all := lw_s3 (i := 11) (by decide +kernel) (by decide +kernel)
theorem q528 : Cond.selects RX7 yX7_tally yX7_tally ∈ lw_all := lw_s3 (i := 12) (by decide +kernel) (by decide +kernel)
theorem q529 : Cond.code yX7_tally prog_9_method_5_code 2 (Option.some (ClassFile.FieldType.object "Sandglass$Tally")) ∈ lw_all := lw_s3 (i := 13) (by rfl) (by rfl)
theorem q530 : Cond.classLink RX7 74 RX6 ∈ lw_all := lw_s3 (i := 14) (by decide +kernel) (by decide +kernel)
theorem q531 : Cond.methodLink RX7 226 yX7_tell ∈ lw_all := lw_s3 (i := 15) (by decide +kernel) (by decide +kernel)
theorem q533 : Cond.instanceMethod yX7_tell ∈ lw_all := lw_s3 (i := 17) (by decide +kernel) (by decide +kernel)
theorem q534 : Cond.code yX7_tell prog_9_method_23_code 3 (Option.none : Option Jvm.ClassFile.FieldType) ∈ lw_all := lw_s3 (i := 18) (by rfl) (by rfl)
theorem q535 : Cond.methodLink RX7 243 yX6_take ∈ lw_all := lw_s3 (i := 19) (by decide +kernel) (by decide +kernel)
theorem q536 : Cond.instanceMethod yX6_take ∈ lw_all := lw_s3 (i := 20) (by decide +kernel) (by decide +kernel)
theorem q537 : Cond.selects RX6 yX6_take yX6_take ∈ lw_all := lw_s3 (i := 21) (by decide +kernel) (by decide +kernel)
theorem q538 : Cond.code yX6_take prog_8_method_2_code 2 (Option.none : Option Jvm.ClassFile.FieldType) ∈ lw_all := lw_s3 (i := 22) (by rfl) (by rfl)
theorem q539 : Cond.methodLink RX6 28 yJ9_min_7cf53 ∈ lw_all := lw_s3 (i := 23) (by decide +kernel) (by decide +kernel)
theorem q540 : Cond.methodLink RX6 37 yJ9_max_7cf53 ∈ lw_all := lw_s3 (i := 24) (by decide +kernel) (by decide +kernel)
theorem q541 : Cond.methodLink RX6 52 yX6_keep ∈ lw_all := lw_s3 (i := 25) (by decide +kernel) (by decide +kernel)
theorem q543 : Cond.instanceMethod yX6_keep ∈ lw_all := lw_s3 (i := 27) (by decide +kernel) (by decide +kernel)
theorem q544 : Cond.instantiable RX6 10 ∈ lw_all := lw_s3 (i := 28) (by decide +kernel) (by decide +kernel)
theorem q545 : Cond.code yX6_keep prog_8_method_3_code 2 (Option.none : Option Jvm.ClassFile.FieldType) ∈ lw_all := lw_s3 (i := 29) (by rfl) (by rfl)
theorem q546 : Cond.constant RX6 59 (8192000 : Int32) ∈ lw_all := lw_s3 (i := 30) (by decide +kernel) (by decide +kernel)
theorem q547 : Cond.methodLink RX6 60 yJx4a65c_isEmpty_aae02 ∈ lw_all := lw_s3 (i := 31) (by decide +kernel) (by decide +kernel)
theorem q548 : Cond.instanceMethod yJx4a65c_isEmpty_aae02 ∈ lw_all := lw_s3 (i := 32) (by decide +kernel) (by decide +kernel)
theorem q549 : Cond.selects RJx4a65c yJx4a65c_isEmpty_aae02 yJx4a65c_isEmpty_aae02 ∈ lw_all := lw_s3 (i := 33) (by decide +kernel) (by decide +kernel)
theorem q550 : Cond.code yJx4a65c_isEmpty_aae02 prog_31_method_9_code 1 (Option.some ClassFile.FieldType.boolean) ∈ lw_all := lw_s3 (i := 34) (by rfl) (by rfl)
theorem q551 : Cond.methodLink RX6 64 yJx4a65c_size_8abf5 ∈ lw_all := lw_s3 (i := 35) (by decide +kernel) (by decide +kernel)
theorem q552 : Cond.classLink RX6 68 RX0 ∈ lw_all := lw_s3 (i := 36) (by decide +kernel) (by decide +kernel)
theorem q553 : Cond.instantiable RX0 1 ∈ lw_all := lw_s3 (i := 37) (by decide +kernel) (by decide +kernel)
theorem q555 : Cond.instanceMethod yX0_init ∈ lw_all := lw_s3 (i := 39) (by decide +kernel) (by decide +kernel)
theorem q556 : Cond.code yX0_init prog_2_method_1_code 1 (Option.none : Option Jvm.ClassFile.FieldType) ∈ lw_all := lw_s3 (i := 40) (by rfl) (by rfl)
theorem q557 : Cond.methodLink RX0 3 ⟨"java/lang/Object", "<init>", "()V"⟩ ∈ lw_all := lw_s3 (i := 41) (by decide +kernel) (by decide +kernel)
theorem q558 : Cond.fieldLink RX0 9 "Sandglass$Chunk" "sums" "[I" ∈ lw_all := lw_s3 (i := 42) (by decide +kernel) (by decide +kernel)
theorem q559 : Cond.fieldLink RX6 79 "Sandglass$Chunk" "sums" "[I" ∈ lw_all := lw_s3 (i := 43) (by decide +kernel) (by decide +kernel)
theorem q563 : Cond.methodLink RX6 71 yJx4a65c_add_9ea2d ∈ lw_all := lw_s3 (i := 47) (by decide +kernel) (by decide +kernel)
theorem q564 : Cond.instanceMethod yJx4a65c_add_9ea2d ∈ lw_all := lw_s3 (i := 48) (by decide +kernel) (by decide +kernel)
theorem q565 : Cond.selects RJx4a65c yJx4a65c_add_9ea2d yJx4a65c_add_9ea2d ∈ lw_all := lw_s3 (i := 49) (by decide +kernel) (by decide +kernel)
theorem q566 : Cond.code yJx4a65c_add_9ea2d prog_31_method_25_code 2 (Option.some ClassFile.FieldType.boolean) ∈ lw_all := lw_s3 (i := 50) (by rfl) (by rfl)
theorem q567 : Cond.methodLink RJx4a65c 131 yJx4a65c_add_72be8 ∈ lw_all := lw_s3 (i := 51) (by decide +kernel) (by decide +kernel)
theorem q569 : Cond.instanceMethod yJx4a65c_add_72be8 ∈ lw_all := lw_s3 (i := 53) (by decide +kernel) (by decide +kernel)
theorem q570 : Cond.code yJx4a65c_add_72be8 prog_31_method_24_code 4 (Option.none : Option Jvm.ClassFile.FieldType) ∈ lw_all := lw_s3 (i := 54) (by rfl) (by rfl)
theorem q571 : Cond.methodLink RJx4a65c 129 yJx4a65c_grow_d5877 ∈ lw_all := lw_s3 (i := 55) (by decide +kernel) (by decide +kernel)
theorem q573 : Cond.instanceMethod yJx4a65c_grow_d5877 ∈ lw_all := lw_s3 (i := 57) (by decide +kernel) (by decide +kernel)
theorem q574 : Cond.code yJx4a65c_grow_d5877 prog_31_method_7_code 1 (Option.some (ClassFile.FieldType.array (ClassFile.FieldType.object "java/lang/Object"))) ∈ lw_all := lw_s3 (i := 58) (by rfl) (by rfl)
theorem q575 : Cond.methodLink RJx4a65c 69 yJx4a65c_grow_92f84 ∈ lw_all := lw_s3 (i := 59) (by decide +kernel) (by decide +kernel)
theorem q577 : Cond.instanceMethod yJx4a65c_grow_92f84 ∈ lw_all := lw_s3 (i := 61) (by decide +kernel) (by decide +kernel)
theorem q578 : Cond.code yJx4a65c_grow_92f84 prog_31_method_6_code 4 (Option.some (ClassFile.FieldType.array (ClassFile.FieldType.object "java/lang/Object"))) ∈ lw_all := lw_s3 (i := 62) (by rfl) (by rfl)
theorem q579 : Cond.methodLink RJx4a65c 73 yJ8_newLength_cabcc ∈ lw_all := lw_s3 (i := 63) (by decide +kernel) (by decide +kernel)
theorem q580 : Cond.static yJ8_newLength_cabcc ∈ lw_all := lw_s3 (i := 64) (by decide +kernel) (by decide +kernel)
theorem q581 : Cond.code yJ8_newLength_cabcc prog_38_method_27_code 4 (Option.some ClassFile.FieldType.int) ∈ lw_all := lw_s3 (i := 65) (by rfl) (by rfl)
theorem q582 : Cond.methodLink RJ8 194 yJ9_max_7cf53 ∈ lw_all := lw_s3 (i := 66) (by decide +kernel) (by decide +kernel)
theorem q583 : Cond.constant RJ8 200 (2147483639 : Int32) ∈ lw_all := lw_s3 (i := 67) (by decide +kernel) (by decide +kernel)
theorem q584 : Cond.methodLink RJ8 201 yJ8_hugeLength_7cf53 ∈ lw_all := lw_s3 (i := 68) (by decide +kernel) (by decide +kernel)
theorem q585 : Cond.static yJ8_hugeLength_7cf53 ∈ lw_all := lw_s3 (i := 69) (by decide +kernel) (by decide +kernel)
theorem q586 : Cond.code yJ8_hugeLength_7cf53 prog_38_method_28_code 3 (Option.some ClassFile.FieldType.int) ∈ lw_all := lw_s3 (i := 70) (by rfl) (by rfl)
theorem q587 : Cond.methodLink RJx4a65c 66 yJ7_copyOf_1904c ∈ lw_all := lw_s3 (i := 71) (by decide +kernel) (by decide +kernel)
theorem q588 : Cond.static yJ7_copyOf_1904c ∈ lw_all := lw_s3 (i := 72) (by decide +kernel) (by decide +kernel)
theorem q589 : Cond.code yJ7_copyOf_1904c prog_32_method_119_code 2 (Option.some (ClassFile.FieldType.array (ClassFile.FieldType.object "java/lang/Object"))) ∈ lw_all := lw_s3 (i := 73) (by rfl) (by rfl)
theorem q590 : Cond.methodLink RJ7 86 ⟨"java/lang/Object", "getClass", "()Ljava/lang/Class;"⟩ ∈ lw_all := lw_s3 (i := 74) (by decide +kernel) (by decide +kernel)
theorem q591 : Cond.instanceMethod ⟨"java/lang/Object", "getClass", "()Ljava/lang/Class;"⟩ ∈ lw_all := lw_s3 (i := 75) (by decide +kernel) (by decide +kernel)
theorem q592 : Cond.sameMethod "java/lang/Object" "java/lang/Object" "getClass" "()Ljava/lang/Class;" ∈ lw_all := lw_s3 (i := 76) (by decide +kernel) (by decide +kernel)
theorem q593 : Cond.selects RX8 ⟨"java/lang/Object", "getClass", "()Ljava/lang/Class;"⟩ ⟨"java/lang/Object", "getClass", "()Ljava/lang/Class;"⟩ ∈ lw_all := lw_s3 (i := 77) (by decide +kernel) (by decide +kernel)
theorem q594 : Cond.selects RX0 ⟨"java/lang/Object", "getClass", "()Ljava/lang/Class;"⟩ ⟨"java/lang/Object", "getClass", "()Ljava/lang/Class;"⟩ ∈ lw_all := lw_s3 (i := 78) (by decide +kernel) (by decide +kernel)
theorem q595 : Cond.selects RX1 ⟨"java/lang/Object", "getClass", "()Ljava/lang/Class;"⟩ ⟨"java/lang/Object", "getClass", "()Ljava/lang/Class;"⟩ ∈ lw_all := lw_s3 (i := 79) (by decide +kernel) (by decide +kernel)
theorem q596 : Cond.selects RX2 ⟨"java/lang/Object", "getClass", "()Ljava/lang/Class;"⟩ ⟨"java/lang/Object", "getClass", "()Ljava/lang/Class;"⟩ ∈ lw_all := lw_s3 (i := 80) (by decide +kernel) (by decide +kernel)
theorem q597 : Cond.selects RX3 ⟨"java/lang/Object", "getClass", "()Ljava/lang/Class;"⟩ ⟨"java/lang/Object", "getClass", "()Ljava/lang/Class;"⟩ ∈ lw_all := lw_s3 (i := 81) (by decide +kernel) (by decide +kernel)
theorem q598 : Cond.selects RX4 ⟨"java/lang/Object", "getClass", "()Ljava/lang/Class;"⟩ ⟨"java/lang/Object", "getClass", "()Ljava/lang/Class;"⟩ ∈ lw_all := lw_s3 (i := 82) (by decide +kernel) (by decide +kernel)
theorem q599 : Cond.selects RX5 ⟨"java/lang/Object", "getClass", "()Ljava/lang/Class;"⟩ ⟨"java/lang/Object", "getClass", "()Ljava/lang/Class;"⟩ ∈ lw_all := lw_s3 (i := 83) (by decide +kernel) (by decide +kernel)
theorem q600 : Cond.selects RX6 ⟨"java/lang/Object", "getClass", "()Ljava/lang/Class;"⟩ ⟨"java/lang/Object", "getClass", "()Ljava/lang/Class;"⟩ ∈ lw_all := lw_s3 (i := 84) (by decide +kernel) (by decide +kernel)
theorem q601 : Cond.selects RX7 ⟨"java/lang/Object", "getClass", "()Ljava/lang/Class;"⟩ ⟨"java/lang/Object", "getClass", "()Ljava/lang/Class;"⟩ ∈ lw_all := lw_s3 (i := 85) (by decide +kernel) (by decide +kernel)
theorem q602 : Cond.selects RX9 ⟨"java/lang/Object", "getClass", "()Ljava/lang/Class;"⟩ ⟨"java/lang/Object", "getClass", "()Ljava/lang/Class;"⟩ ∈ lw_all := lw_s3 (i := 86) (by decide +kernel) (by decide +kernel)
theorem q606 : Cond.selects RJx4a65c ⟨"java/lang/Object", "getClass", "()Ljava/lang/Class;"⟩ ⟨"java/lang/Object", "getClass", "()Ljava/lang/Class;"⟩ ∈ lw_all := lw_s3 (i := 90) (by decide +kernel) (by decide +kernel)
theorem q607 : Cond.native ⟨"java/lang/Object", "getClass", "()Ljava/lang/Class;"⟩ ∈ lw_all := lw_s3 (i := 91) (by decide +kernel) (by decide +kernel)
theorem q608 : Cond.methodLink RJ7 300 yJ7_copyOf_6403c ∈ lw_all := lw_s3 (i := 92) (by decide +kernel) (by decide +kernel)
theorem q609 : Cond.static yJ7_copyOf_6403c ∈ lw_all := lw_s3 (i := 93) (by decide +kernel) (by decide +kernel)
theorem q610 : Cond.code yJ7_copyOf_6403c prog_32_method_120_code 4 (Option.some (ClassFile.FieldType.array (ClassFile.FieldType.object "java/lang/Object"))) ∈ lw_all := lw_s3 (i := 94) (by rfl) (by rfl)
theorem q611 : Cond.classLink RJ7 110 "[Ljava/lang/Object;" ∈ lw_all := lw_s3 (i := 95) (by decide +kernel) (by decide +kernel)
theorem q613 : Cond.classLink RJ7 2 "java/lang/Object" ∈ lw_all := lw_s3 (i := 97) (by decide +kernel) (by decide +kernel)
theorem q614 : Cond.methodLink RJ7 304 yJ9_min_7cf53 ∈ lw_all := lw_s3 (i := 98) (by decide +kernel) (by decide +kernel)
theorem q615 : Cond.methodLink RJ7 150 ⟨"java/lang/System", "arraycopy", "(Ljava/lang/Object;ILjava/lang/Object;II)V"⟩ ∈ lw_all := lw_s3 (i := 99) (by decide +kernel) (by decide +kernel)
theorem q616 : Cond.static ⟨"java/lang/System", "arraycopy", "(Ljava/lang/Object;ILjava/lang/Object;II)V"⟩ ∈ lw_all := lw_s3 (i := 100) (by decide +kernel) (by decide +kernel)
theorem q617 : Cond.native ⟨"java/lang/System", "arraycopy", "(Ljava/lang/Object;ILjava/lang/Object;II)V"⟩ ∈ lw_all := lw_s3 (i := 101) (by decide +kernel) (by decide +kernel)
theorem q618 : Cond.methodLink RJx4a65c 79 yJ9_max_7cf53 ∈ lw_all := lw_s3 (i := 102) (by decide +kernel) (by decide +kernel)
theorem q619 : Cond.classLink RJx4a65c 7 "java/lang/Object" ∈ lw_all := lw_s3 (i := 103) (by decide +kernel) (by decide +kernel)
theorem q620 : Cond.methodLink RX6 75 yJx4a65c_get_915e3 ∈ lw_all := lw_s3 (i := 104) (by decide +kernel) (by decide +kernel)
theorem q622 : Cond.methodLink RX7 230 yX7_goAgain ∈ lw_all := lw_s3 (i := 106) (by decide +kernel) (by decide +kernel)
theorem q624 : Cond.instanceMethod yX7_goAgain ∈ lw_all := lw_s3 (i := 108) (by decide +kernel) (by decide +kernel)
theorem q625 : Cond.code yX7_goAgain prog_9_method_24_code 4 (Option.none : Option Jvm.ClassFile.FieldType) ∈ lw_all := lw_s3 (i := 109) (by rfl) (by rfl)
theorem q626 : Cond.methodLink RX7 233 yX7_skip ∈ lw_all := lw_s3 (i := 110) (by decide +kernel) (by decide +kernel)
theorem q628 : Cond.instanceMethod yX7_skip ∈ lw_all := lw_s3 (i := 112) (by decide +kernel) (by decide +kernel)
theorem q629 : Cond.code yX7_skip prog_9_method_25_code 4 (Option.none : Option Jvm.ClassFile.FieldType) ∈ lw_all := lw_s3 (i := 113) (by rfl) (by rfl)
theorem q630 : Cond.methodLink RX7 164 yX2_isOver ∈ lw_all := lw_s3 (i := 114) (by decide +kernel) (by decide +kernel)
theorem q631 : Cond.instanceMethod yX2_isOver ∈ lw_all := lw_s3 (i := 115) (by decide +kernel) (by decide +kernel)
theorem q632 : Cond.selects RX2 yX2_isOver yX2_isOver ∈ lw_all := lw_s3 (i := 116) (by decide +kernel) (by decide +kernel)
theorem q633 : Cond.code yX2_isOver prog_4_method_3_code 1 (Option.some ClassFile.FieldType.boolean) ∈ lw_all := lw_s3 (i := 117) (by rfl) (by rfl)
theorem q634 : Cond.methodLink RX7 176 yX7_finish ∈ lw_all := lw_s3 (i := 118) (by decide +kernel) (by decide +kernel)
theorem q635 : Cond.instanceMethod yX7_finish ∈ lw_all := lw_s3 (i := 119) (by decide +kernel) (by decide +kernel)
theorem q636 : Cond.selects RX7 yX7_finish yX7_finish ∈ lw_all := lw_s3 (i := 120) (by decide +kernel) (by decide +kernel)
theorem q637 : Cond.code yX7_finish prog_9_method_12_code 4 (Option.none : Option Jvm.ClassFile.FieldType) ∈ lw_all := lw_s3 (i := 121) (by rfl) (by rfl)
theorem q638 : Cond.methodLink RX7 104 yX7_leave ∈ lw_all := lw_s3 (i := 122) (by decide +kernel) (by decide +kernel)
theorem q640 : Cond.instanceMethod yX7_leave ∈ lw_all := lw_s3 (i := 124) (by decide +kernel) (by decide +kernel)
theorem q641 : Cond.code yX7_leave prog_9_method_27_code 3 (Option.none : Option Jvm.ClassFile.FieldType) ∈ lw_all := lw_s3 (i := 125) (by rfl) (by rfl)
theorem q643 : Cond.methodLink RL 124 yX8_interrupt ∈ lw_all := lw_s3 (i := 127) (by decide +kernel) (by decide +kernel)
theorem q644 : Cond.instanceMethod yX8_interrupt ∈ lw_all := lw_s3 (i := 128) (by decide +kernel) (by decide +kernel)
theorem q645 : Cond.selects RX8 yX8_interrupt yX8_interrupt ∈ lw_all := lw_s3 (i := 129) (by decide +kernel) (by decide +kernel)
theorem q646 : Cond.code yX8_interrupt prog_1_method_12_code 3 (Option.some ClassFile.FieldType.int) ∈ lw_all := lw_s3 (i := 130) (by rfl) (by rfl)
theorem q647 : Cond.methodLink RX8 151 yX8_demandProcess ∈ lw_all := lw_s3 (i := 131) (by decide +kernel) (by decide +kernel)
theorem q649 : Cond.instanceMethod yX8_demandProcess ∈ lw_all := lw_s3 (i := 133) (by decide +kernel) (by decide +kernel)
theorem q650 : Cond.code yX8_demandProcess prog_1_method_57_code 3 (Option.some (ClassFile.FieldType.object "Sandglass$Proc")) ∈ lw_all := lw_s3 (i := 134) (by rfl) (by rfl)
theorem q651 : Cond.methodLink RX8 424 yX7_process ∈ lw_all := lw_s3 (i := 135) (by decide +kernel) (by decide +kernel)
theorem q652 : Cond.instanceMethod yX7_process ∈ lw_all := lw_s3 (i := 136) (by decide +kernel) (by decide +kernel)
theorem q653 : Cond.selects RX7 yX7_process yX7_process ∈ lw_all := lw_s3 (i := 137) (by decide +kernel) (by decide +kernel)
theorem q654 : Cond.code yX7_process prog_9_method_7_code 2 (Option.some (ClassFile.FieldType.object "Sandglass$Proc")) ∈ lw_all := lw_s3 (i := 138) (by rfl) (by rfl)
theorem q657 : Cond.methodLink RX8 160 yX7_interruptOne ∈ lw_all := lw_s3 (i := 141) (by decide +kernel) (by decide +kernel)
theorem q658 : Cond.instanceMethod yX7_interruptOne ∈ lw_all := lw_s3 (i := 142) (by decide +kernel) (by decide +kernel)
theorem q659 : Cond.selects RX7 yX7_interruptOne yX7_interruptOne ∈ lw_all := lw_s3 (i := 143) (by decide +kernel) (by decide +kernel)
theorem q660 : Cond.code yX7_interruptOne prog_9_method_11_code 2 (Option.none : Option Jvm.ClassFile.FieldType) ∈ lw_all := lw_s3 (i := 144) (by rfl) (by rfl)
theorem q661 : Cond.methodLink RL 127 yX8_cancel ∈ lw_all := lw_s3 (i := 145) (by decide +kernel) (by decide +kernel)
theorem q662 : Cond.instanceMethod yX8_cancel ∈ lw_all := lw_s3 (i := 146) (by decide +kernel) (by decide +kernel)
theorem q663 : Cond.selects RX8 yX8_cancel yX8_cancel ∈ lw_all := lw_s3 (i := 147) (by decide +kernel) (by decide +kernel)
theorem q664 : Cond.code yX8_cancel prog_1_method_13_code 4 (Option.some ClassFile.FieldType.int) ∈ lw_all := lw_s3 (i := 148) (by rfl) (by rfl)
theorem q665 : Cond.methodLink RX8 167 yX2_isOver ∈ lw_all := lw_s3 (i := 149) (by decide +kernel) (by decide +kernel)
theorem q667 : Cond.methodLink RX8 173 yX2_heldInAll ∈ lw_all := lw_s3 (i := 151) (by decide +kernel) (by decide +kernel)
theorem q668 : Cond.instanceMethod yX2_heldInAll ∈ lw_all := lw_s3 (i := 152) (by decide +kernel) (by decide +kernel)
theorem q669 : Cond.selects RX2 yX2_heldInAll yX2_heldInAll ∈ lw_all := lw_s3 (i := 153) (by decide +kernel) (by decide +kernel)
theorem q670 : Cond.code yX2_heldInAll prog_4_method_8_code 6 (Option.some ClassFile.FieldType.int) ∈ lw_all := lw_s3 (i := 154) (by rfl) (by rfl)
theorem q671 : Cond.methodLink RX8 176 yX7_finish ∈ lw_all := lw_s3 (i := 155) (by decide +kernel) (by decide +kernel)
theorem q672 : Cond.methodLink RL 60 yX8_time ∈ lw_all := lw_s3 (i := 156) (by decide +kernel) (by decide +kernel)
theorem q673 : Cond.instanceMethod yX8_time ∈ lw_all := lw_s3 (i := 157) (by decide +kernel) (by decide +kernel)
end
section
theorem q674 : Cond.selects RX8 yX8_time yX8_time ∈ lw_all := lw_s3 (i := 158) (by decide +kernel) (by decide +kernel)
theorem q675 : Cond.code yX8_time prog_1_method_14_code 1 (Option.some ClassFile.FieldType.int) ∈ lw_all := lw_s3 (i := 159) (by rfl) (by rfl)
theorem q676 : Cond.methodLink RL 72 yX8_events ∈ lw_all := lw_s3 (i := 160) (by decide +kernel) (by decide +kernel)
theorem q677 : Cond.instanceMethod yX8_events ∈ lw_all := lw_s3 (i := 161) (by decide +kernel) (by decide +kernel)
theorem q678 : Cond.selects RX8 yX8_events yX8_events ∈ lw_all := lw_s3 (i := 162) (by decide +kernel) (by decide +kernel)
theorem q679 : Cond.code yX8_events prog_1_method_16_code 1 (Option.some ClassFile.FieldType.int) ∈ lw_all := lw_s3 (i := 163) (by rfl) (by rfl)
theorem q680 : Cond.methodLink RX8 183 yX7_countEvents ∈ lw_all := lw_s3 (i := 164) (by decide +kernel) (by decide +kernel)
theorem q681 : Cond.instanceMethod yX7_countEvents ∈ lw_all := lw_s3 (i := 165) (by decide +kernel) (by decide +kernel)
theorem q682 : Cond.selects RX7 yX7_countEvents yX7_countEvents ∈ lw_all := lw_s3 (i := 166) (by decide +kernel) (by decide +kernel)
theorem q683 : Cond.code yX7_countEvents prog_9_method_13_code 6 (Option.some ClassFile.FieldType.int) ∈ lw_all := lw_s3 (i := 167) (by rfl) (by rfl)
theorem q684 : Cond.methodLink RL 75 yX8_nextTime ∈ lw_all := lw_s3 (i := 168) (by decide +kernel) (by decide +kernel)
theorem q685 : Cond.instanceMethod yX8_nextTime ∈ lw_all := lw_s3 (i := 169) (by decide +kernel) (by decide +kernel)
theorem q686 : Cond.selects RX8 yX8_nextTime yX8_nextTime ∈ lw_all := lw_s3 (i := 170) (by decide +kernel) (by decide +kernel)
theorem q687 : Cond.code yX8_nextTime prog_1_method_17_code 2 (Option.some ClassFile.FieldType.int) ∈ lw_all := lw_s3 (i := 171) (by rfl) (by rfl)
theorem q688 : Cond.methodLink RX8 186 yX7_nextToGo ∈ lw_all := lw_s3 (i := 172) (by decide +kernel) (by decide +kernel)
theorem q689 : Cond.methodLink RL 51 yX8_processes ∈ lw_all := lw_s3 (i := 173) (by decide +kernel) (by decide +kernel)
theorem q690 : Cond.instanceMethod yX8_processes ∈ lw_all := lw_s3 (i := 174) (by decide +kernel) (by decide +kernel)
theorem q691 : Cond.selects RX8 yX8_processes yX8_processes ∈ lw_all := lw_s3 (i := 175) (by decide +kernel) (by decide +kernel)
theorem q692 : Cond.code yX8_processes prog_1_method_18_code 1 (Option.some ClassFile.FieldType.int) ∈ lw_all := lw_s3 (i := 176) (by rfl) (by rfl)
theorem q693 : Cond.methodLink RL 121 yX8_done ∈ lw_all := lw_s3 (i := 177) (by decide +kernel) (by decide +kernel)
theorem q694 : Cond.instanceMethod yX8_done ∈ lw_all := lw_s3 (i := 178) (by decide +kernel) (by decide +kernel)
theorem q695 : Cond.selects RX8 yX8_done yX8_done ∈ lw_all := lw_s3 (i := 179) (by decide +kernel) (by decide +kernel)
theorem q696 : Cond.code yX8_done prog_1_method_19_code 1 (Option.some ClassFile.FieldType.int) ∈ lw_all := lw_s3 (i := 180) (by rfl) (by rfl)
theorem q697 : Cond.methodLink RL 54 yX8_stateOf ∈ lw_all := lw_s3 (i := 181) (by decide +kernel) (by decide +kernel)
theorem q698 : Cond.instanceMethod yX8_stateOf ∈ lw_all := lw_s3 (i := 182) (by decide +kernel) (by decide +kernel)
theorem q699 : Cond.selects RX8 yX8_stateOf yX8_stateOf ∈ lw_all := lw_s3 (i := 183) (by decide +kernel) (by decide +kernel)
theorem q700 : Cond.code yX8_stateOf prog_1_method_20_code 2 (Option.some ClassFile.FieldType.int) ∈ lw_all := lw_s3 (i := 184) (by rfl) (by rfl)
theorem q701 : Cond.methodLink RL 57 yX8_eventOf ∈ lw_all := lw_s3 (i := 185) (by decide +kernel) (by decide +kernel)
theorem q702 : Cond.instanceMethod yX8_eventOf ∈ lw_all := lw_s3 (i := 186) (by decide +kernel) (by decide +kernel)
theorem q703 : Cond.selects RX8 yX8_eventOf yX8_eventOf ∈ lw_all := lw_s3 (i := 187) (by decide +kernel) (by decide +kernel)
theorem q704 : Cond.code yX8_eventOf prog_1_method_25_code 2 (Option.some ClassFile.FieldType.int) ∈ lw_all := lw_s3 (i := 188) (by rfl) (by rfl)
theorem q705 : Cond.methodLink RL 69 yX8_holds ∈ lw_all := lw_s3 (i := 189) (by decide +kernel) (by decide +kernel)
theorem q706 : Cond.instanceMethod yX8_holds ∈ lw_all := lw_s3 (i := 190) (by decide +kernel) (by decide +kernel)
theorem q707 : Cond.selects RX8 yX8_holds yX8_holds ∈ lw_all := lw_s3 (i := 191) (by decide +kernel) (by decide +kernel)
theorem q708 : Cond.code yX8_holds prog_1_method_26_code 5 (Option.some ClassFile.FieldType.int) ∈ lw_all := lw_s3 (i := 192) (by rfl) (by rfl)
theorem q709 : Cond.methodLink RX8 204 yX8_demandResource ∈ lw_all := lw_s3 (i := 193) (by decide +kernel) (by decide +kernel)
theorem q711 : Cond.instanceMethod yX8_demandResource ∈ lw_all := lw_s3 (i := 195) (by decide +kernel) (by decide +kernel)
theorem q712 : Cond.code yX8_demandResource prog_1_method_53_code 3 (Option.some (ClassFile.FieldType.object "Sandglass$Resource")) ∈ lw_all := lw_s3 (i := 196) (by rfl) (by rfl)
theorem q713 : Cond.methodLink RX8 304 yX7_resource ∈ lw_all := lw_s3 (i := 197) (by decide +kernel) (by decide +kernel)
theorem q715 : Cond.methodLink RX8 213 yX8_at ∈ lw_all := lw_s3 (i := 199) (by decide +kernel) (by decide +kernel)
theorem q716 : Cond.methodLink RL 81 yX8_busy ∈ lw_all := lw_s3 (i := 200) (by decide +kernel) (by decide +kernel)
theorem q717 : Cond.instanceMethod yX8_busy ∈ lw_all := lw_s3 (i := 201) (by decide +kernel) (by decide +kernel)
theorem q718 : Cond.selects RX8 yX8_busy yX8_busy ∈ lw_all := lw_s3 (i := 202) (by decide +kernel) (by decide +kernel)
theorem q719 : Cond.code yX8_busy prog_1_method_30_code 2 (Option.some ClassFile.FieldType.int) ∈ lw_all := lw_s3 (i := 203) (by rfl) (by rfl)
theorem q720 : Cond.methodLink RL 147 yX8_tallied ∈ lw_all := lw_s3 (i := 204) (by decide +kernel) (by decide +kernel)
theorem q721 : Cond.instanceMethod yX8_tallied ∈ lw_all := lw_s3 (i := 205) (by decide +kernel) (by decide +kernel)
theorem q722 : Cond.selects RX8 yX8_tallied yX8_tallied ∈ lw_all := lw_s3 (i := 206) (by decide +kernel) (by decide +kernel)
theorem q723 : Cond.code yX8_tallied prog_1_method_37_code 2 (Option.some ClassFile.FieldType.int) ∈ lw_all := lw_s3 (i := 207) (by rfl) (by rfl)
theorem q724 : Cond.methodLink RX8 261 yX8_demandTally ∈ lw_all := lw_s3 (i := 208) (by decide +kernel) (by decide +kernel)
theorem q726 : Cond.instanceMethod yX8_demandTally ∈ lw_all := lw_s3 (i := 210) (by decide +kernel) (by decide +kernel)
theorem q727 : Cond.code yX8_demandTally prog_1_method_55_code 3 (Option.some (ClassFile.FieldType.object "Sandglass$Tally")) ∈ lw_all := lw_s3 (i := 211) (by rfl) (by rfl)
theorem q728 : Cond.methodLink RX8 413 yX7_tally ∈ lw_all := lw_s3 (i := 212) (by decide +kernel) (by decide +kernel)
theorem q730 : Cond.methodLink RL 153 yX8_ofTally ∈ lw_all := lw_s3 (i := 214) (by decide +kernel) (by decide +kernel)
theorem q731 : Cond.instanceMethod yX8_ofTally ∈ lw_all := lw_s3 (i := 215) (by decide +kernel) (by decide +kernel)
theorem q732 : Cond.selects RX8 yX8_ofTally yX8_ofTally ∈ lw_all := lw_s3 (i := 216) (by decide +kernel) (by decide +kernel)
theorem q733 : Cond.code yX8_ofTally prog_1_method_38_code 4 (Option.some ClassFile.FieldType.int) ∈ lw_all := lw_s3 (i := 217) (by rfl) (by rfl)
theorem q735 : Cond.methodLink RL 150 yX8_batches ∈ lw_all := lw_s3 (i := 219) (by decide +kernel) (by decide +kernel)
theorem q736 : Cond.instanceMethod yX8_batches ∈ lw_all := lw_s3 (i := 220) (by decide +kernel) (by decide +kernel)
theorem q737 : Cond.selects RX8 yX8_batches yX8_batches ∈ lw_all := lw_s3 (i := 221) (by decide +kernel) (by decide +kernel)
theorem q738 : Cond.code yX8_batches prog_1_method_39_code 2 (Option.some ClassFile.FieldType.int) ∈ lw_all := lw_s3 (i := 222) (by rfl) (by rfl)
theorem q739 : Cond.methodLink RL 143 yX8_spread ∈ lw_all := lw_s3 (i := 223) (by decide +kernel) (by decide +kernel)
theorem q740 : Cond.instanceMethod yX8_spread ∈ lw_all := lw_s3 (i := 224) (by decide +kernel) (by decide +kernel)
theorem q741 : Cond.selects RX8 yX8_spread yX8_spread ∈ lw_all := lw_s3 (i := 225) (by decide +kernel) (by decide +kernel)
theorem q742 : Cond.code yX8_spread prog_1_method_41_code 2 (Option.some ClassFile.FieldType.double) ∈ lw_all := lw_s3 (i := 226) (by rfl) (by rfl)
theorem q743 : Cond.methodLink RX8 290 yX6_variance ∈ lw_all := lw_s3 (i := 227) (by decide +kernel) (by decide +kernel)
theorem q744 : Cond.instanceMethod yX6_variance ∈ lw_all := lw_s3 (i := 228) (by decide +kernel) (by decide +kernel)
theorem q745 : Cond.selects RX6 yX6_variance yX6_variance ∈ lw_all := lw_s3 (i := 229) (by decide +kernel) (by decide +kernel)
theorem q746 : Cond.code yX6_variance prog_8_method_5_code 12 (Option.some ClassFile.FieldType.double) ∈ lw_all := lw_s3 (i := 230) (by rfl) (by rfl)
theorem q747 : Cond.constantLong RX6 91 (2 : Int64) ∈ lw_all := lw_s3 (i := 231) (by decide +kernel) (by decide +kernel)
theorem q748 : Cond.methodLink RX6 93 yX6_sumAt ∈ lw_all := lw_s3 (i := 232) (by decide +kernel) (by decide +kernel)
theorem q749 : Cond.instanceMethod yX6_sumAt ∈ lw_all := lw_s3 (i := 233) (by decide +kernel) (by decide +kernel)
theorem q750 : Cond.selects RX6 yX6_sumAt yX6_sumAt ∈ lw_all := lw_s3 (i := 234) (by decide +kernel) (by decide +kernel)
theorem q751 : Cond.code yX6_sumAt prog_8_method_4_code 3 (Option.some ClassFile.FieldType.int) ∈ lw_all := lw_s3 (i := 235) (by rfl) (by rfl)
theorem q753 : Cond.methodLink RX6 97 yX6_lowPart ∈ lw_all := lw_s3 (i := 237) (by decide +kernel) (by decide +kernel)
theorem q754 : Cond.static yX6_lowPart ∈ lw_all := lw_s3 (i := 238) (by decide +kernel) (by decide +kernel)
theorem q755 : Cond.code yX6_lowPart prog_8_method_7_code 3 (Option.some ClassFile.FieldType.long) ∈ lw_all := lw_s3 (i := 239) (by rfl) (by rfl)
theorem q756 : Cond.methodLink RX6 101 yX6_overBar ∈ lw_all := lw_s4 (i := 0) (by decide +kernel) (by decide +kernel)
theorem q757 : Cond.static yX6_overBar ∈ lw_all := lw_s4 (i := 1) (by decide +kernel) (by decide +kernel)
theorem q758 : Cond.code yX6_overBar prog_8_method_6_code 18 (Option.some ClassFile.FieldType.double) ∈ lw_all := lw_s4 (i := 2) (by rfl) (by rfl)
theorem q759 : Cond.constantDouble RX6 105 (4787326403894837248 : UInt64) ∈ lw_all := lw_s4 (i := 3) (by decide +kernel) (by decide +kernel)
theorem q760 : Cond.methodLink RL 130 yX8_endOf ∈ lw_all := lw_s4 (i := 4) (by decide +kernel) (by decide +kernel)
theorem q761 : Cond.instanceMethod yX8_endOf ∈ lw_all := lw_s4 (i := 5) (by decide +kernel) (by decide +kernel)
theorem q762 : Cond.selects RX8 yX8_endOf yX8_endOf ∈ lw_all := lw_s4 (i := 6) (by decide +kernel) (by decide +kernel)
theorem q763 : Cond.code yX8_endOf prog_1_method_42_code 4 (Option.some ClassFile.FieldType.int) ∈ lw_all := lw_s4 (i := 7) (by rfl) (by rfl)
theorem q765 : Cond.methodLink RX8 296 yX7_copyFrom ∈ lw_all := lw_s4 (i := 9) (by decide +kernel) (by decide +kernel)
theorem q766 : Cond.instanceMethod yX7_copyFrom ∈ lw_all := lw_s4 (i := 10) (by decide +kernel) (by decide +kernel)
theorem q767 : Cond.selects RX7 yX7_copyFrom yX7_copyFrom ∈ lw_all := lw_s4 (i := 11) (by decide +kernel) (by decide +kernel)
theorem q768 : Cond.code yX7_copyFrom prog_9_method_2_code 3 (Option.none : Option Jvm.ClassFile.FieldType) ∈ lw_all := lw_s4 (i := 12) (by rfl) (by rfl)
theorem q769 : Cond.methodLink RX7 52 yX2_copyFrom ∈ lw_all := lw_s4 (i := 13) (by decide +kernel) (by decide +kernel)
theorem q770 : Cond.instanceMethod yX2_copyFrom ∈ lw_all := lw_s4 (i := 14) (by decide +kernel) (by decide +kernel)
theorem q771 : Cond.selects RX2 yX2_copyFrom yX2_copyFrom ∈ lw_all := lw_s4 (i := 15) (by decide +kernel) (by decide +kernel)
theorem q772 : Cond.code yX2_copyFrom prog_4_method_2_code 2 (Option.none : Option Jvm.ClassFile.FieldType) ∈ lw_all := lw_s4 (i := 16) (by rfl) (by rfl)
theorem q774 : Cond.static yX8_copyRow ∈ lw_all := lw_s4 (i := 18) (by decide +kernel) (by decide +kernel)
theorem q775 : Cond.code yX8_copyRow prog_1_method_60_code 3 (Option.none : Option Jvm.ClassFile.FieldType) ∈ lw_all := lw_s4 (i := 19) (by rfl) (by rfl)
theorem q776 : Cond.methodLink RX7 66 yX3_copyFrom ∈ lw_all := lw_s4 (i := 20) (by decide +kernel) (by decide +kernel)
theorem q777 : Cond.instanceMethod yX3_copyFrom ∈ lw_all := lw_s4 (i := 21) (by decide +kernel) (by decide +kernel)
theorem q778 : Cond.selects RX3 yX3_copyFrom yX3_copyFrom ∈ lw_all := lw_s4 (i := 22) (by decide +kernel) (by decide +kernel)
theorem q779 : Cond.code yX3_copyFrom prog_5_method_2_code 2 (Option.none : Option Jvm.ClassFile.FieldType) ∈ lw_all := lw_s4 (i := 23) (by rfl) (by rfl)
theorem q780 : Cond.methodLink RX7 71 yX5_copyFrom ∈ lw_all := lw_s4 (i := 24) (by decide +kernel) (by decide +kernel)
theorem q781 : Cond.instanceMethod yX5_copyFrom ∈ lw_all := lw_s4 (i := 25) (by decide +kernel) (by decide +kernel)
theorem q782 : Cond.selects RX5 yX5_copyFrom yX5_copyFrom ∈ lw_all := lw_s4 (i := 26) (by decide +kernel) (by decide +kernel)
theorem q783 : Cond.code yX5_copyFrom prog_7_method_2_code 2 (Option.none : Option Jvm.ClassFile.FieldType) ∈ lw_all := lw_s4 (i := 27) (by rfl) (by rfl)
theorem q784 : Cond.methodLink RX8 300 yX7_runToEndOf ∈ lw_all := lw_s4 (i := 28) (by decide +kernel) (by decide +kernel)
theorem q785 : Cond.instanceMethod yX7_runToEndOf ∈ lw_all := lw_s4 (i := 29) (by decide +kernel) (by decide +kernel)
theorem q786 : Cond.selects RX7 yX7_runToEndOf yX7_runToEndOf ∈ lw_all := lw_s4 (i := 30) (by decide +kernel) (by decide +kernel)
theorem q787 : Cond.code yX7_runToEndOf prog_9_method_18_code 5 (Option.some ClassFile.FieldType.int) ∈ lw_all := lw_s4 (i := 31) (by rfl) (by rfl)
theorem q788 : Cond.methodLink RX7 160 yX7_process ∈ lw_all := lw_s4 (i := 32) (by decide +kernel) (by decide +kernel)
theorem q789 : Cond.methodLink RX7 154 yX7_happen ∈ lw_all := lw_s4 (i := 33) (by decide +kernel) (by decide +kernel)
theorem q790 : Cond.methodLink RL 140 yX8_wouldBeBusy ∈ lw_all := lw_s4 (i := 34) (by decide +kernel) (by decide +kernel)
theorem q791 : Cond.instanceMethod yX8_wouldBeBusy ∈ lw_all := lw_s4 (i := 35) (by decide +kernel) (by decide +kernel)
theorem q792 : Cond.selects RX8 yX8_wouldBeBusy yX8_wouldBeBusy ∈ lw_all := lw_s4 (i := 36) (by decide +kernel) (by decide +kernel)
theorem q793 : Cond.code yX8_wouldBeBusy prog_1_method_43_code 4 (Option.some ClassFile.FieldType.int) ∈ lw_all := lw_s4 (i := 37) (by rfl) (by rfl)
theorem q795 : Cond.methodLink RX8 147 yX7_runFor ∈ lw_all := lw_s4 (i := 39) (by decide +kernel) (by decide +kernel)
theorem q796 : Cond.instanceMethod yX7_runFor ∈ lw_all := lw_s4 (i := 40) (by decide +kernel) (by decide +kernel)
theorem q797 : Cond.selects RX7 yX7_runFor yX7_runFor ∈ lw_all := lw_s4 (i := 41) (by decide +kernel) (by decide +kernel)
theorem q798 : Cond.code yX7_runFor prog_9_method_17_code 4 (Option.some ClassFile.FieldType.int) ∈ lw_all := lw_s4 (i := 42) (by rfl) (by rfl)
theorem q799 : Cond.methodLink RX7 150 yX7_hasEventBy ∈ lw_all := lw_s4 (i := 43) (by decide +kernel) (by decide +kernel)
theorem q800 : Cond.instanceMethod yX7_hasEventBy ∈ lw_all := lw_s4 (i := 44) (by decide +kernel) (by decide +kernel)
theorem q801 : Cond.selects RX7 yX7_hasEventBy yX7_hasEventBy ∈ lw_all := lw_s4 (i := 45) (by decide +kernel) (by decide +kernel)
theorem q802 : Cond.code yX7_hasEventBy prog_9_method_15_code 3 (Option.some ClassFile.FieldType.boolean) ∈ lw_all := lw_s4 (i := 46) (by rfl) (by rfl)
theorem q803 : Cond.methodLink RL 136 yX8_digest ∈ lw_all := lw_s4 (i := 47) (by decide +kernel) (by decide +kernel)
theorem q804 : Cond.instanceMethod yX8_digest ∈ lw_all := lw_s4 (i := 48) (by decide +kernel) (by decide +kernel)
theorem q805 : Cond.selects RX8 yX8_digest yX8_digest ∈ lw_all := lw_s4 (i := 49) (by decide +kernel) (by decide +kernel)
theorem q806 : Cond.code yX8_digest prog_1_method_44_code 4 (Option.some ClassFile.FieldType.long) ∈ lw_all := lw_s4 (i := 50) (by rfl) (by rfl)
theorem q807 : Cond.constantLong RX8 307 (58032 : Int64) ∈ lw_all := lw_s4 (i := 51) (by decide +kernel) (by decide +kernel)
theorem q808 : Cond.methodLink RX8 309 yX8_time ∈ lw_all := lw_s4 (i := 52) (by decide +kernel) (by decide +kernel)
theorem q809 : Cond.methodLink RX8 311 yX8_mix ∈ lw_all := lw_s4 (i := 53) (by decide +kernel) (by decide +kernel)
theorem q810 : Cond.static yX8_mix ∈ lw_all := lw_s4 (i := 54) (by decide +kernel) (by decide +kernel)
theorem q811 : Cond.code yX8_mix prog_1_method_45_code 3 (Option.some ClassFile.FieldType.long) ∈ lw_all := lw_s4 (i := 55) (by rfl) (by rfl)
theorem q812 : Cond.constantLong RX8 344 (31 : Int64) ∈ lw_all := lw_s4 (i := 56) (by decide +kernel) (by decide +kernel)
theorem q813 : Cond.methodLink RX8 315 yX8_luck ∈ lw_all := lw_s4 (i := 57) (by decide +kernel) (by decide +kernel)
theorem q814 : Cond.instanceMethod yX8_luck ∈ lw_all := lw_s4 (i := 58) (by decide +kernel) (by decide +kernel)
theorem q815 : Cond.selects RX8 yX8_luck yX8_luck ∈ lw_all := lw_s4 (i := 59) (by decide +kernel) (by decide +kernel)
theorem q816 : Cond.code yX8_luck prog_1_method_15_code 1 (Option.some ClassFile.FieldType.int) ∈ lw_all := lw_s4 (i := 60) (by rfl) (by rfl)
theorem q817 : Cond.methodLink RX8 317 yX8_events ∈ lw_all := lw_s4 (i := 61) (by decide +kernel) (by decide +kernel)
theorem q818 : Cond.methodLink RX8 320 yX8_nextTime ∈ lw_all := lw_s4 (i := 62) (by decide +kernel) (by decide +kernel)
theorem q819 : Cond.methodLink RX8 323 yX8_processes ∈ lw_all := lw_s4 (i := 63) (by decide +kernel) (by decide +kernel)
theorem q820 : Cond.methodLink RX8 326 yX8_done ∈ lw_all := lw_s4 (i := 64) (by decide +kernel) (by decide +kernel)
theorem q821 : Cond.methodLink RX8 328 yX8_mixProcesses ∈ lw_all := lw_s4 (i := 65) (by decide +kernel) (by decide +kernel)
theorem q823 : Cond.instanceMethod yX8_mixProcesses ∈ lw_all := lw_s4 (i := 67) (by decide +kernel) (by decide +kernel)
theorem q824 : Cond.code yX8_mixProcesses prog_1_method_46_code 5 (Option.some ClassFile.FieldType.long) ∈ lw_all := lw_s4 (i := 68) (by rfl) (by rfl)
theorem q825 : Cond.methodLink RX8 346 yX8_stateOf ∈ lw_all := lw_s4 (i := 69) (by decide +kernel) (by decide +kernel)
theorem q826 : Cond.methodLink RX8 349 yX8_placeOf ∈ lw_all := lw_s4 (i := 70) (by decide +kernel) (by decide +kernel)
theorem q827 : Cond.instanceMethod yX8_placeOf ∈ lw_all := lw_s4 (i := 71) (by decide +kernel) (by decide +kernel)
theorem q828 : Cond.selects RX8 yX8_placeOf yX8_placeOf ∈ lw_all := lw_s4 (i := 72) (by decide +kernel) (by decide +kernel)
theorem q829 : Cond.code yX8_placeOf prog_1_method_21_code 2 (Option.some ClassFile.FieldType.int) ∈ lw_all := lw_s4 (i := 73) (by rfl) (by rfl)
theorem q830 : Cond.methodLink RX8 352 yX8_rankOf ∈ lw_all := lw_s4 (i := 74) (by decide +kernel) (by decide +kernel)
theorem q831 : Cond.instanceMethod yX8_rankOf ∈ lw_all := lw_s4 (i := 75) (by decide +kernel) (by decide +kernel)
theorem q832 : Cond.selects RX8 yX8_rankOf yX8_rankOf ∈ lw_all := lw_s4 (i := 76) (by decide +kernel) (by decide +kernel)
theorem q833 : Cond.code yX8_rankOf prog_1_method_22_code 2 (Option.some ClassFile.FieldType.int) ∈ lw_all := lw_s4 (i := 77) (by rfl) (by rfl)
end
section
theorem q834 : Cond.methodLink RX8 355 yX8_restOf ∈ lw_all := lw_s4 (i := 78) (by decide +kernel) (by decide +kernel)
theorem q835 : Cond.instanceMethod yX8_restOf ∈ lw_all := lw_s4 (i := 79) (by decide +kernel) (by decide +kernel)
theorem q836 : Cond.selects RX8 yX8_restOf yX8_restOf ∈ lw_all := lw_s4 (i := 80) (by decide +kernel) (by decide +kernel)
theorem q837 : Cond.code yX8_restOf prog_1_method_23_code 2 (Option.some ClassFile.FieldType.int) ∈ lw_all := lw_s4 (i := 81) (by rfl) (by rfl)
theorem q838 : Cond.methodLink RX8 358 yX8_markOf ∈ lw_all := lw_s4 (i := 82) (by decide +kernel) (by decide +kernel)
theorem q839 : Cond.instanceMethod yX8_markOf ∈ lw_all := lw_s4 (i := 83) (by decide +kernel) (by decide +kernel)
theorem q840 : Cond.selects RX8 yX8_markOf yX8_markOf ∈ lw_all := lw_s4 (i := 84) (by decide +kernel) (by decide +kernel)
theorem q841 : Cond.code yX8_markOf prog_1_method_24_code 2 (Option.some ClassFile.FieldType.int) ∈ lw_all := lw_s4 (i := 85) (by rfl) (by rfl)
theorem q842 : Cond.methodLink RX8 361 yX8_eventOf ∈ lw_all := lw_s4 (i := 86) (by decide +kernel) (by decide +kernel)
theorem q843 : Cond.methodLink RX8 45 yJx4a65c_size_8abf5 ∈ lw_all := lw_s4 (i := 87) (by decide +kernel) (by decide +kernel)
theorem q844 : Cond.methodLink RX8 364 yX8_holds ∈ lw_all := lw_s4 (i := 88) (by decide +kernel) (by decide +kernel)
theorem q845 : Cond.methodLink RX8 332 yX8_mixResources ∈ lw_all := lw_s4 (i := 89) (by decide +kernel) (by decide +kernel)
theorem q847 : Cond.instanceMethod yX8_mixResources ∈ lw_all := lw_s4 (i := 91) (by decide +kernel) (by decide +kernel)
theorem q848 : Cond.code yX8_mixResources prog_1_method_47_code 6 (Option.some ClassFile.FieldType.long) ∈ lw_all := lw_s4 (i := 92) (by rfl) (by rfl)
theorem q849 : Cond.methodLink RX8 367 yX8_queued ∈ lw_all := lw_s4 (i := 93) (by decide +kernel) (by decide +kernel)
theorem q850 : Cond.instanceMethod yX8_queued ∈ lw_all := lw_s4 (i := 94) (by decide +kernel) (by decide +kernel)
theorem q851 : Cond.selects RX8 yX8_queued yX8_queued ∈ lw_all := lw_s4 (i := 95) (by decide +kernel) (by decide +kernel)
theorem q852 : Cond.code yX8_queued prog_1_method_28_code 2 (Option.some ClassFile.FieldType.int) ∈ lw_all := lw_s4 (i := 96) (by rfl) (by rfl)
theorem q853 : Cond.methodLink RX8 220 yX7_countIn ∈ lw_all := lw_s4 (i := 97) (by decide +kernel) (by decide +kernel)
theorem q854 : Cond.methodLink RX8 370 yX8_free ∈ lw_all := lw_s4 (i := 98) (by decide +kernel) (by decide +kernel)
theorem q855 : Cond.instanceMethod yX8_free ∈ lw_all := lw_s4 (i := 99) (by decide +kernel) (by decide +kernel)
theorem q856 : Cond.selects RX8 yX8_free yX8_free ∈ lw_all := lw_s4 (i := 100) (by decide +kernel) (by decide +kernel)
theorem q857 : Cond.code yX8_free prog_1_method_27_code 2 (Option.some ClassFile.FieldType.int) ∈ lw_all := lw_s4 (i := 101) (by rfl) (by rfl)
theorem q858 : Cond.methodLink RX8 373 yX8_queuedAt ∈ lw_all := lw_s4 (i := 102) (by decide +kernel) (by decide +kernel)
theorem q859 : Cond.instanceMethod yX8_queuedAt ∈ lw_all := lw_s4 (i := 103) (by decide +kernel) (by decide +kernel)
theorem q860 : Cond.selects RX8 yX8_queuedAt yX8_queuedAt ∈ lw_all := lw_s4 (i := 104) (by decide +kernel) (by decide +kernel)
theorem q861 : Cond.code yX8_queuedAt prog_1_method_29_code 4 (Option.some ClassFile.FieldType.int) ∈ lw_all := lw_s4 (i := 105) (by rfl) (by rfl)
theorem q862 : Cond.methodLink RX8 223 yX7_inRowAt ∈ lw_all := lw_s4 (i := 106) (by decide +kernel) (by decide +kernel)
theorem q863 : Cond.instanceMethod yX7_inRowAt ∈ lw_all := lw_s4 (i := 107) (by decide +kernel) (by decide +kernel)
theorem q864 : Cond.selects RX7 yX7_inRowAt yX7_inRowAt ∈ lw_all := lw_s4 (i := 108) (by decide +kernel) (by decide +kernel)
theorem q865 : Cond.code yX7_inRowAt prog_9_method_30_code 7 (Option.some (ClassFile.FieldType.object "Sandglass$Proc")) ∈ lw_all := lw_s4 (i := 109) (by rfl) (by rfl)
theorem q866 : Cond.methodLink RX7 274 yX7_countBefore ∈ lw_all := lw_s4 (i := 110) (by decide +kernel) (by decide +kernel)
theorem q868 : Cond.instanceMethod yX7_countBefore ∈ lw_all := lw_s4 (i := 112) (by decide +kernel) (by decide +kernel)
theorem q869 : Cond.code yX7_countBefore prog_9_method_31_code 7 (Option.some ClassFile.FieldType.int) ∈ lw_all := lw_s4 (i := 113) (by rfl) (by rfl)
theorem q871 : Cond.methodLink RX8 376 yX8_busy ∈ lw_all := lw_s4 (i := 115) (by decide +kernel) (by decide +kernel)
theorem q872 : Cond.methodLink RX8 379 yX8_queueing ∈ lw_all := lw_s4 (i := 116) (by decide +kernel) (by decide +kernel)
theorem q873 : Cond.instanceMethod yX8_queueing ∈ lw_all := lw_s4 (i := 117) (by decide +kernel) (by decide +kernel)
theorem q874 : Cond.selects RX8 yX8_queueing yX8_queueing ∈ lw_all := lw_s4 (i := 118) (by decide +kernel) (by decide +kernel)
theorem q875 : Cond.code yX8_queueing prog_1_method_31_code 2 (Option.some ClassFile.FieldType.int) ∈ lw_all := lw_s4 (i := 119) (by rfl) (by rfl)
theorem q876 : Cond.methodLink RX8 382 yX8_longest ∈ lw_all := lw_s4 (i := 120) (by decide +kernel) (by decide +kernel)
theorem q877 : Cond.instanceMethod yX8_longest ∈ lw_all := lw_s4 (i := 121) (by decide +kernel) (by decide +kernel)
theorem q878 : Cond.selects RX8 yX8_longest yX8_longest ∈ lw_all := lw_s4 (i := 122) (by decide +kernel) (by decide +kernel)
theorem q879 : Cond.code yX8_longest prog_1_method_32_code 2 (Option.some ClassFile.FieldType.int) ∈ lw_all := lw_s4 (i := 123) (by rfl) (by rfl)
theorem q880 : Cond.methodLink RX8 335 yX8_mixStores ∈ lw_all := lw_s4 (i := 124) (by decide +kernel) (by decide +kernel)
theorem q882 : Cond.instanceMethod yX8_mixStores ∈ lw_all := lw_s4 (i := 126) (by decide +kernel) (by decide +kernel)
theorem q883 : Cond.code yX8_mixStores prog_1_method_48_code 4 (Option.some ClassFile.FieldType.long) ∈ lw_all := lw_s4 (i := 127) (by rfl) (by rfl)
theorem q884 : Cond.methodLink RX8 385 yX8_level ∈ lw_all := lw_s4 (i := 128) (by decide +kernel) (by decide +kernel)
theorem q885 : Cond.instanceMethod yX8_level ∈ lw_all := lw_s4 (i := 129) (by decide +kernel) (by decide +kernel)
theorem q886 : Cond.selects RX8 yX8_level yX8_level ∈ lw_all := lw_s4 (i := 130) (by decide +kernel) (by decide +kernel)
theorem q887 : Cond.code yX8_level prog_1_method_33_code 2 (Option.some ClassFile.FieldType.int) ∈ lw_all := lw_s4 (i := 131) (by rfl) (by rfl)
theorem q888 : Cond.methodLink RX8 241 yX8_demandStore ∈ lw_all := lw_s4 (i := 132) (by decide +kernel) (by decide +kernel)
theorem q890 : Cond.instanceMethod yX8_demandStore ∈ lw_all := lw_s4 (i := 134) (by decide +kernel) (by decide +kernel)
theorem q891 : Cond.code yX8_demandStore prog_1_method_54_code 3 (Option.some (ClassFile.FieldType.object "Sandglass$Store")) ∈ lw_all := lw_s4 (i := 135) (by rfl) (by rfl)
theorem q892 : Cond.methodLink RX8 407 yX7_store ∈ lw_all := lw_s4 (i := 136) (by decide +kernel) (by decide +kernel)
theorem q894 : Cond.methodLink RX8 388 yX8_blocked ∈ lw_all := lw_s4 (i := 138) (by decide +kernel) (by decide +kernel)
theorem q895 : Cond.instanceMethod yX8_blocked ∈ lw_all := lw_s4 (i := 139) (by decide +kernel) (by decide +kernel)
theorem q896 : Cond.selects RX8 yX8_blocked yX8_blocked ∈ lw_all := lw_s4 (i := 140) (by decide +kernel) (by decide +kernel)
theorem q897 : Cond.code yX8_blocked prog_1_method_34_code 3 (Option.some ClassFile.FieldType.int) ∈ lw_all := lw_s4 (i := 141) (by rfl) (by rfl)
theorem q898 : Cond.methodLink RX8 248 yX5_row ∈ lw_all := lw_s4 (i := 142) (by decide +kernel) (by decide +kernel)
theorem q899 : Cond.methodLink RX8 392 yX8_area ∈ lw_all := lw_s4 (i := 143) (by decide +kernel) (by decide +kernel)
theorem q900 : Cond.instanceMethod yX8_area ∈ lw_all := lw_s4 (i := 144) (by decide +kernel) (by decide +kernel)
theorem q901 : Cond.selects RX8 yX8_area yX8_area ∈ lw_all := lw_s4 (i := 145) (by decide +kernel) (by decide +kernel)
theorem q902 : Cond.code yX8_area prog_1_method_35_code 2 (Option.some ClassFile.FieldType.int) ∈ lw_all := lw_s4 (i := 146) (by rfl) (by rfl)
theorem q903 : Cond.methodLink RX8 338 yX8_awaiting ∈ lw_all := lw_s4 (i := 147) (by decide +kernel) (by decide +kernel)
theorem q904 : Cond.instanceMethod yX8_awaiting ∈ lw_all := lw_s4 (i := 148) (by decide +kernel) (by decide +kernel)
theorem q905 : Cond.selects RX8 yX8_awaiting yX8_awaiting ∈ lw_all := lw_s4 (i := 149) (by decide +kernel) (by decide +kernel)
theorem q906 : Cond.code yX8_awaiting prog_1_method_36_code 2 (Option.some ClassFile.FieldType.int) ∈ lw_all := lw_s4 (i := 150) (by rfl) (by rfl)
theorem q907 : Cond.methodLink RX8 255 yX8_isSignal ∈ lw_all := lw_s4 (i := 151) (by decide +kernel) (by decide +kernel)
theorem q908 : Cond.static yX8_isSignal ∈ lw_all := lw_s4 (i := 152) (by decide +kernel) (by decide +kernel)
theorem q909 : Cond.code yX8_isSignal prog_1_method_51_code 1 (Option.some ClassFile.FieldType.boolean) ∈ lw_all := lw_s4 (i := 153) (by rfl) (by rfl)
theorem q911 : Cond.methodLink RX8 341 yX8_mixTallies ∈ lw_all := lw_s4 (i := 155) (by decide +kernel) (by decide +kernel)
theorem q913 : Cond.instanceMethod yX8_mixTallies ∈ lw_all := lw_s4 (i := 157) (by decide +kernel) (by decide +kernel)
theorem q914 : Cond.code yX8_mixTallies prog_1_method_49_code 6 (Option.some ClassFile.FieldType.long) ∈ lw_all := lw_s4 (i := 158) (by rfl) (by rfl)
theorem q915 : Cond.methodLink RX8 395 yX8_tallied ∈ lw_all := lw_s4 (i := 159) (by decide +kernel) (by decide +kernel)
theorem q916 : Cond.methodLink RX8 398 yX8_ofTally ∈ lw_all := lw_s4 (i := 160) (by decide +kernel) (by decide +kernel)
theorem q917 : Cond.methodLink RX8 401 yX8_batches ∈ lw_all := lw_s4 (i := 161) (by decide +kernel) (by decide +kernel)
theorem q918 : Cond.methodLink RX8 404 yX8_sumOf ∈ lw_all := lw_s4 (i := 162) (by decide +kernel) (by decide +kernel)
theorem q919 : Cond.instanceMethod yX8_sumOf ∈ lw_all := lw_s4 (i := 163) (by decide +kernel) (by decide +kernel)
theorem q920 : Cond.selects RX8 yX8_sumOf yX8_sumOf ∈ lw_all := lw_s4 (i := 164) (by decide +kernel) (by decide +kernel)
theorem q921 : Cond.code yX8_sumOf prog_1_method_40_code 4 (Option.some ClassFile.FieldType.int) ∈ lw_all := lw_s4 (i := 165) (by rfl) (by rfl)
theorem q923 : Cond.methodLink RX8 287 yX6_sumAt ∈ lw_all := lw_s4 (i := 167) (by decide +kernel) (by decide +kernel)
theorem q924 : Cond.methodLink RL 15 yL_below ∈ lw_all := lw_s4 (i := 168) (by decide +kernel) (by decide +kernel)
theorem q925 : Cond.static yL_below ∈ lw_all := lw_s4 (i := 169) (by decide +kernel) (by decide +kernel)
theorem q926 : Cond.code yL_below method_2_code 2 (Option.some ClassFile.FieldType.int) ∈ lw_all := lw_s4 (i := 170) (by rfl) (by rfl)
theorem q927 : Cond.constant RL 7 (2147483647 : Int32) ∈ lw_all := lw_s4 (i := 171) (by decide +kernel) (by decide +kernel)
theorem q928 : Cond.methodLink RL 9 yL_cell ∈ lw_all := lw_s4 (i := 172) (by decide +kernel) (by decide +kernel)
theorem q929 : Cond.static yL_cell ∈ lw_all := lw_s4 (i := 173) (by decide +kernel) (by decide +kernel)
theorem q930 : Cond.code yL_cell method_3_code 2 (Option.some ClassFile.FieldType.int) ∈ lw_all := lw_s4 (i := 174) (by rfl) (by rfl)
theorem q931 : Cond.constant RL 8 (790386105 : Int32) ∈ lw_all := lw_s4 (i := 175) (by decide +kernel) (by decide +kernel)
theorem q932 : Cond.methodLink RL 110 yL_build ∈ lw_all := lw_s4 (i := 176) (by decide +kernel) (by decide +kernel)
theorem q933 : Cond.static yL_build ∈ lw_all := lw_s4 (i := 177) (by decide +kernel) (by decide +kernel)
theorem q934 : Cond.code yL_build method_4_code 17 (Option.some (ClassFile.FieldType.object "SandglassLaw$Sim")) ∈ lw_all := lw_s4 (i := 178) (by rfl) (by rfl)
theorem q935 : Cond.methodLink RL 19 yX8_addResource ∈ lw_all := lw_s4 (i := 179) (by decide +kernel) (by decide +kernel)
theorem q936 : Cond.instanceMethod yX8_addResource ∈ lw_all := lw_s4 (i := 180) (by decide +kernel) (by decide +kernel)
theorem q937 : Cond.selects RX8 yX8_addResource yX8_addResource ∈ lw_all := lw_s4 (i := 181) (by decide +kernel) (by decide +kernel)
theorem q938 : Cond.code yX8_addResource prog_1_method_2_code 4 (Option.some ClassFile.FieldType.int) ∈ lw_all := lw_s4 (i := 182) (by rfl) (by rfl)
theorem q941 : Cond.classLink RX8 54 RX3 ∈ lw_all := lw_s4 (i := 185) (by decide +kernel) (by decide +kernel)
theorem q942 : Cond.instantiable RX3 7 ∈ lw_all := lw_s4 (i := 186) (by decide +kernel) (by decide +kernel)
theorem q943 : Cond.methodLink RX8 56 yX3_init ∈ lw_all := lw_s4 (i := 187) (by decide +kernel) (by decide +kernel)
theorem q944 : Cond.instanceMethod yX3_init ∈ lw_all := lw_s4 (i := 188) (by decide +kernel) (by decide +kernel)
theorem q945 : Cond.code yX3_init prog_5_method_1_code 4 (Option.none : Option Jvm.ClassFile.FieldType) ∈ lw_all := lw_s4 (i := 189) (by rfl) (by rfl)
theorem q946 : Cond.methodLink RX3 1 ⟨"java/lang/Object", "<init>", "()V"⟩ ∈ lw_all := lw_s4 (i := 190) (by decide +kernel) (by decide +kernel)
theorem q947 : Cond.fieldLink RX3 7 "Sandglass$Resource" "number" "I" ∈ lw_all := lw_s4 (i := 191) (by decide +kernel) (by decide +kernel)
theorem q948 : Cond.fieldLink RX7 137 "Sandglass$Resource" "number" "I" ∈ lw_all := lw_s4 (i := 192) (by decide +kernel) (by decide +kernel)
theorem q949 : Cond.fieldLink RX8 212 "Sandglass$Resource" "number" "I" ∈ lw_all := lw_s4 (i := 193) (by decide +kernel) (by decide +kernel)
theorem q950 : Cond.fieldLink RX3 13 "Sandglass$Resource" "kind" "I" ∈ lw_all := lw_s4 (i := 194) (by decide +kernel) (by decide +kernel)
theorem q951 : Cond.fieldLink RX7 282 "Sandglass$Resource" "kind" "I" ∈ lw_all := lw_s4 (i := 195) (by decide +kernel) (by decide +kernel)
theorem q952 : Cond.fieldLink RX3 16 "Sandglass$Resource" "units" "I" ∈ lw_all := lw_s4 (i := 196) (by decide +kernel) (by decide +kernel)
theorem q953 : Cond.fieldLink RX7 128 "Sandglass$Resource" "units" "I" ∈ lw_all := lw_s4 (i := 197) (by decide +kernel) (by decide +kernel)
theorem q954 : Cond.fieldLink RX3 19 "Sandglass$Resource" "unheld" "I" ∈ lw_all := lw_s4 (i := 198) (by decide +kernel) (by decide +kernel)
theorem q955 : Cond.fieldLink RX7 131 "Sandglass$Resource" "unheld" "I" ∈ lw_all := lw_s4 (i := 199) (by decide +kernel) (by decide +kernel)
theorem q956 : Cond.fieldLink RX8 217 "Sandglass$Resource" "unheld" "I" ∈ lw_all := lw_s4 (i := 200) (by decide +kernel) (by decide +kernel)
theorem q957 : Cond.fieldLink RX3 22 "Sandglass$Resource" "busyTicks" "I" ∈ lw_all := lw_s4 (i := 201) (by decide +kernel) (by decide +kernel)
theorem q958 : Cond.fieldLink RX7 125 "Sandglass$Resource" "busyTicks" "I" ∈ lw_all := lw_s4 (i := 202) (by decide +kernel) (by decide +kernel)
theorem q959 : Cond.fieldLink RX8 232 "Sandglass$Resource" "busyTicks" "I" ∈ lw_all := lw_s4 (i := 203) (by decide +kernel) (by decide +kernel)
theorem q960 : Cond.fieldLink RX3 25 "Sandglass$Resource" "queueTicks" "I" ∈ lw_all := lw_s4 (i := 204) (by decide +kernel) (by decide +kernel)
theorem q961 : Cond.fieldLink RX7 134 "Sandglass$Resource" "queueTicks" "I" ∈ lw_all := lw_s4 (i := 205) (by decide +kernel) (by decide +kernel)
theorem q962 : Cond.fieldLink RX8 235 "Sandglass$Resource" "queueTicks" "I" ∈ lw_all := lw_s4 (i := 206) (by decide +kernel) (by decide +kernel)
theorem q963 : Cond.fieldLink RX3 28 "Sandglass$Resource" "longestQueue" "I" ∈ lw_all := lw_s4 (i := 207) (by decide +kernel) (by decide +kernel)
theorem q964 : Cond.fieldLink RX8 238 "Sandglass$Resource" "longestQueue" "I" ∈ lw_all := lw_s4 (i := 208) (by decide +kernel) (by decide +kernel)
theorem q965 : Cond.fieldLink RX7 297 "Sandglass$Resource" "longestQueue" "I" ∈ lw_all := lw_s4 (i := 209) (by decide +kernel) (by decide +kernel)
theorem q981 : Cond.methodLink RX8 59 yJx4a65c_add_9ea2d ∈ lw_all := lw_s4 (i := 225) (by decide +kernel) (by decide +kernel)
theorem q982 : Cond.methodLink RL 24 yX8_addStore ∈ lw_all := lw_s4 (i := 226) (by decide +kernel) (by decide +kernel)
theorem q983 : Cond.instanceMethod yX8_addStore ∈ lw_all := lw_s4 (i := 227) (by decide +kernel) (by decide +kernel)
theorem q984 : Cond.selects RX8 yX8_addStore yX8_addStore ∈ lw_all := lw_s4 (i := 228) (by decide +kernel) (by decide +kernel)
theorem q985 : Cond.code yX8_addStore prog_1_method_3_code 4 (Option.some ClassFile.FieldType.int) ∈ lw_all := lw_s4 (i := 229) (by rfl) (by rfl)
theorem q988 : Cond.classLink RX8 70 RX5 ∈ lw_all := lw_s4 (i := 232) (by decide +kernel) (by decide +kernel)
theorem q989 : Cond.instantiable RX5 4 ∈ lw_all := lw_s4 (i := 233) (by decide +kernel) (by decide +kernel)
theorem q990 : Cond.methodLink RX8 72 yX5_init ∈ lw_all := lw_s4 (i := 234) (by decide +kernel) (by decide +kernel)
theorem q991 : Cond.instanceMethod yX5_init ∈ lw_all := lw_s4 (i := 235) (by decide +kernel) (by decide +kernel)
theorem q992 : Cond.code yX5_init prog_7_method_1_code 4 (Option.none : Option Jvm.ClassFile.FieldType) ∈ lw_all := lw_s4 (i := 236) (by rfl) (by rfl)
theorem q993 : Cond.methodLink RX5 3 ⟨"java/lang/Object", "<init>", "()V"⟩ ∈ lw_all := lw_s4 (i := 237) (by decide +kernel) (by decide +kernel)
theorem q994 : Cond.fieldLink RX5 9 "Sandglass$Store" "number" "I" ∈ lw_all := lw_s4 (i := 238) (by decide +kernel) (by decide +kernel)
theorem q995 : Cond.fieldLink RX5 15 "Sandglass$Store" "room" "I" ∈ lw_all := lw_s4 (i := 239) (by decide +kernel) (by decide +kernel)
theorem q996 : Cond.fieldLink RX7 333 "Sandglass$Store" "room" "I" ∈ lw_all := lw_s5 (i := 0) (by decide +kernel) (by decide +kernel)
theorem q997 : Cond.fieldLink RX5 18 "Sandglass$Store" "stock" "I" ∈ lw_all := lw_s5 (i := 1) (by decide +kernel) (by decide +kernel)
theorem q998 : Cond.fieldLink RX7 147 "Sandglass$Store" "stock" "I" ∈ lw_all := lw_s5 (i := 2) (by decide +kernel) (by decide +kernel)
theorem q999 : Cond.fieldLink RX8 245 "Sandglass$Store" "stock" "I" ∈ lw_all := lw_s5 (i := 3) (by decide +kernel) (by decide +kernel)
theorem q1000 : Cond.fieldLink RX5 21 "Sandglass$Store" "stockTicks" "I" ∈ lw_all := lw_s5 (i := 4) (by decide +kernel) (by decide +kernel)
theorem q1001 : Cond.fieldLink RX7 144 "Sandglass$Store" "stockTicks" "I" ∈ lw_all := lw_s5 (i := 5) (by decide +kernel) (by decide +kernel)
theorem q1002 : Cond.fieldLink RX8 252 "Sandglass$Store" "stockTicks" "I" ∈ lw_all := lw_s5 (i := 6) (by decide +kernel) (by decide +kernel)
theorem q1012 : Cond.methodLink RL 27 yX8_addTally ∈ lw_all := lw_s5 (i := 16) (by decide +kernel) (by decide +kernel)
theorem q1013 : Cond.instanceMethod yX8_addTally ∈ lw_all := lw_s5 (i := 17) (by decide +kernel) (by decide +kernel)
theorem q1014 : Cond.selects RX8 yX8_addTally yX8_addTally ∈ lw_all := lw_s5 (i := 18) (by decide +kernel) (by decide +kernel)
theorem q1015 : Cond.code yX8_addTally prog_1_method_4_code 2 (Option.some ClassFile.FieldType.int) ∈ lw_all := lw_s5 (i := 19) (by rfl) (by rfl)
theorem q1018 : Cond.classLink RX8 77 RX6 ∈ lw_all := lw_s5 (i := 22) (by decide +kernel) (by decide +kernel)
theorem q1019 : Cond.methodLink RX8 79 yX6_init ∈ lw_all := lw_s5 (i := 23) (by decide +kernel) (by decide +kernel)
theorem q1020 : Cond.instanceMethod yX6_init ∈ lw_all := lw_s5 (i := 24) (by decide +kernel) (by decide +kernel)
theorem q1021 : Cond.code yX6_init prog_8_method_1_code 2 (Option.none : Option Jvm.ClassFile.FieldType) ∈ lw_all := lw_s5 (i := 25) (by rfl) (by rfl)
theorem q1022 : Cond.methodLink RX6 3 ⟨"java/lang/Object", "<init>", "()V"⟩ ∈ lw_all := lw_s5 (i := 26) (by decide +kernel) (by decide +kernel)
end
section
theorem q1023 : Cond.classLink RX6 9 RJx4a65c ∈ lw_all := lw_s5 (i := 27) (by decide +kernel) (by decide +kernel)
theorem q1024 : Cond.methodLink RX6 11 yJx4a65c_init_da8c8 ∈ lw_all := lw_s5 (i := 28) (by decide +kernel) (by decide +kernel)
theorem q1025 : Cond.fieldLink RX6 18 "Sandglass$Tally" "batch" "I" ∈ lw_all := lw_s5 (i := 29) (by decide +kernel) (by decide +kernel)
theorem q1026 : Cond.fieldLink RX6 22 "Sandglass$Tally" "count" "I" ∈ lw_all := lw_s5 (i := 30) (by decide +kernel) (by decide +kernel)
theorem q1027 : Cond.fieldLink RX8 265 "Sandglass$Tally" "count" "I" ∈ lw_all := lw_s5 (i := 31) (by decide +kernel) (by decide +kernel)
theorem q1028 : Cond.fieldLink RX6 43 "Sandglass$Tally" "sum" "I" ∈ lw_all := lw_s5 (i := 32) (by decide +kernel) (by decide +kernel)
theorem q1029 : Cond.fieldLink RX8 268 "Sandglass$Tally" "sum" "I" ∈ lw_all := lw_s5 (i := 33) (by decide +kernel) (by decide +kernel)
theorem q1030 : Cond.fieldLink RX6 25 "Sandglass$Tally" "least" "I" ∈ lw_all := lw_s5 (i := 34) (by decide +kernel) (by decide +kernel)
theorem q1031 : Cond.fieldLink RX8 271 "Sandglass$Tally" "least" "I" ∈ lw_all := lw_s5 (i := 35) (by decide +kernel) (by decide +kernel)
theorem q1032 : Cond.fieldLink RX6 34 "Sandglass$Tally" "greatest" "I" ∈ lw_all := lw_s5 (i := 36) (by decide +kernel) (by decide +kernel)
theorem q1033 : Cond.fieldLink RX8 274 "Sandglass$Tally" "greatest" "I" ∈ lw_all := lw_s5 (i := 37) (by decide +kernel) (by decide +kernel)
theorem q1034 : Cond.fieldLink RX6 40 "Sandglass$Tally" "latest" "I" ∈ lw_all := lw_s5 (i := 38) (by decide +kernel) (by decide +kernel)
theorem q1035 : Cond.fieldLink RX8 277 "Sandglass$Tally" "latest" "I" ∈ lw_all := lw_s5 (i := 39) (by decide +kernel) (by decide +kernel)
theorem q1036 : Cond.fieldLink RX6 46 "Sandglass$Tally" "open" "I" ∈ lw_all := lw_s5 (i := 40) (by decide +kernel) (by decide +kernel)
theorem q1037 : Cond.fieldLink RX6 49 "Sandglass$Tally" "openSum" "I" ∈ lw_all := lw_s5 (i := 41) (by decide +kernel) (by decide +kernel)
theorem q1038 : Cond.fieldLink RX6 56 "Sandglass$Tally" "full" "I" ∈ lw_all := lw_s5 (i := 42) (by decide +kernel) (by decide +kernel)
theorem q1039 : Cond.fieldLink RX8 282 "Sandglass$Tally" "full" "I" ∈ lw_all := lw_s5 (i := 43) (by decide +kernel) (by decide +kernel)
theorem q1040 : Cond.fieldLink RX6 12 "Sandglass$Tally" "chunks" "Ljava/util/ArrayList;" ∈ lw_all := lw_s5 (i := 44) (by decide +kernel) (by decide +kernel)
theorem q1062 : Cond.classLink RL 31 "[[I" ∈ lw_all := lw_s5 (i := 66) (by decide +kernel) (by decide +kernel)
theorem q1064 : Cond.methodLink RL 33 yX8_addScript ∈ lw_all := lw_s5 (i := 68) (by decide +kernel) (by decide +kernel)
theorem q1065 : Cond.instanceMethod yX8_addScript ∈ lw_all := lw_s5 (i := 69) (by decide +kernel) (by decide +kernel)
theorem q1066 : Cond.selects RX8 yX8_addScript yX8_addScript ∈ lw_all := lw_s5 (i := 70) (by decide +kernel) (by decide +kernel)
theorem q1067 : Cond.code yX8_addScript prog_1_method_5_code 1 (Option.some ClassFile.FieldType.int) ∈ lw_all := lw_s5 (i := 71) (by rfl) (by rfl)
theorem q1069 : Cond.classLink RX8 84 RX4 ∈ lw_all := lw_s5 (i := 73) (by decide +kernel) (by decide +kernel)
theorem q1070 : Cond.instantiable RX4 2 ∈ lw_all := lw_s5 (i := 74) (by decide +kernel) (by decide +kernel)
theorem q1072 : Cond.instanceMethod yX4_init ∈ lw_all := lw_s5 (i := 76) (by decide +kernel) (by decide +kernel)
theorem q1073 : Cond.code yX4_init prog_6_method_1_code 1 (Option.none : Option Jvm.ClassFile.FieldType) ∈ lw_all := lw_s5 (i := 77) (by rfl) (by rfl)
theorem q1074 : Cond.methodLink RX4 3 ⟨"java/lang/Object", "<init>", "()V"⟩ ∈ lw_all := lw_s5 (i := 78) (by decide +kernel) (by decide +kernel)
theorem q1075 : Cond.classLink RX4 9 RJx4a65c ∈ lw_all := lw_s5 (i := 79) (by decide +kernel) (by decide +kernel)
theorem q1076 : Cond.methodLink RX4 11 yJx4a65c_init_da8c8 ∈ lw_all := lw_s5 (i := 80) (by decide +kernel) (by decide +kernel)
theorem q1077 : Cond.fieldLink RX4 12 "Sandglass$Script" "instructions" "Ljava/util/ArrayList;" ∈ lw_all := lw_s5 (i := 81) (by decide +kernel) (by decide +kernel)
theorem q1078 : Cond.fieldLink RX8 96 "Sandglass$Script" "instructions" "Ljava/util/ArrayList;" ∈ lw_all := lw_s5 (i := 82) (by decide +kernel) (by decide +kernel)
theorem q1079 : Cond.fieldLink RX4 18 "Sandglass$Script" "handler" "I" ∈ lw_all := lw_s5 (i := 83) (by decide +kernel) (by decide +kernel)
theorem q1080 : Cond.fieldLink RX8 114 "Sandglass$Script" "handler" "I" ∈ lw_all := lw_s5 (i := 84) (by decide +kernel) (by decide +kernel)
theorem q1081 : Cond.fieldLink RX7 107 "Sandglass$Script" "handler" "I" ∈ lw_all := lw_s5 (i := 85) (by decide +kernel) (by decide +kernel)
theorem q1087 : Cond.classLink RL 37 "[I" ∈ lw_all := lw_s5 (i := 91) (by decide +kernel) (by decide +kernel)
theorem q1089 : Cond.methodLink RL 39 yX8_setHandler ∈ lw_all := lw_s5 (i := 93) (by decide +kernel) (by decide +kernel)
theorem q1090 : Cond.instanceMethod yX8_setHandler ∈ lw_all := lw_s5 (i := 94) (by decide +kernel) (by decide +kernel)
theorem q1091 : Cond.selects RX8 yX8_setHandler yX8_setHandler ∈ lw_all := lw_s5 (i := 95) (by decide +kernel) (by decide +kernel)
theorem q1092 : Cond.code yX8_setHandler prog_1_method_7_code 5 (Option.some ClassFile.FieldType.int) ∈ lw_all := lw_s5 (i := 96) (by rfl) (by rfl)
theorem q1094 : Cond.methodLink RL 42 yX8_add ∈ lw_all := lw_s5 (i := 98) (by decide +kernel) (by decide +kernel)
theorem q1095 : Cond.instanceMethod yX8_add ∈ lw_all := lw_s5 (i := 99) (by decide +kernel) (by decide +kernel)
theorem q1096 : Cond.selects RX8 yX8_add yX8_add ∈ lw_all := lw_s5 (i := 100) (by decide +kernel) (by decide +kernel)
theorem q1097 : Cond.code yX8_add prog_1_method_6_code 7 (Option.some ClassFile.FieldType.int) ∈ lw_all := lw_s5 (i := 101) (by rfl) (by rfl)
theorem q1098 : Cond.methodLink RX8 91 yX8_isInstruction ∈ lw_all := lw_s5 (i := 102) (by decide +kernel) (by decide +kernel)
theorem q1100 : Cond.instanceMethod yX8_isInstruction ∈ lw_all := lw_s5 (i := 104) (by decide +kernel) (by decide +kernel)
theorem q1101 : Cond.code yX8_isInstruction prog_1_method_52_code 4 (Option.some ClassFile.FieldType.boolean) ∈ lw_all := lw_s5 (i := 105) (by rfl) (by rfl)
theorem q1104 : Cond.methodLink RX8 101 yX7_hasStarted ∈ lw_all := lw_s5 (i := 108) (by decide +kernel) (by decide +kernel)
theorem q1105 : Cond.instanceMethod yX7_hasStarted ∈ lw_all := lw_s5 (i := 109) (by decide +kernel) (by decide +kernel)
theorem q1106 : Cond.selects RX7 yX7_hasStarted yX7_hasStarted ∈ lw_all := lw_s5 (i := 110) (by decide +kernel) (by decide +kernel)
theorem q1107 : Cond.code yX7_hasStarted prog_9_method_8_code 6 (Option.some ClassFile.FieldType.boolean) ∈ lw_all := lw_s5 (i := 111) (by rfl) (by rfl)
theorem q1109 : Cond.classLink RX8 107 RX1 ∈ lw_all := lw_s5 (i := 113) (by decide +kernel) (by decide +kernel)
theorem q1110 : Cond.instantiable RX1 4 ∈ lw_all := lw_s5 (i := 114) (by decide +kernel) (by decide +kernel)
theorem q1111 : Cond.methodLink RX8 109 yX1_init ∈ lw_all := lw_s5 (i := 115) (by decide +kernel) (by decide +kernel)
theorem q1112 : Cond.instanceMethod yX1_init ∈ lw_all := lw_s5 (i := 116) (by decide +kernel) (by decide +kernel)
theorem q1113 : Cond.code yX1_init prog_3_method_1_code 5 (Option.none : Option Jvm.ClassFile.FieldType) ∈ lw_all := lw_s5 (i := 117) (by rfl) (by rfl)
theorem q1114 : Cond.methodLink RX1 1 ⟨"java/lang/Object", "<init>", "()V"⟩ ∈ lw_all := lw_s5 (i := 118) (by decide +kernel) (by decide +kernel)
theorem q1115 : Cond.fieldLink RX1 7 "Sandglass$Instruction" "number" "I" ∈ lw_all := lw_s5 (i := 119) (by decide +kernel) (by decide +kernel)
theorem q1116 : Cond.fieldLink RX7 250 "Sandglass$Instruction" "number" "I" ∈ lw_all := lw_s5 (i := 120) (by decide +kernel) (by decide +kernel)
theorem q1117 : Cond.fieldLink RX1 13 "Sandglass$Instruction" "code" "I" ∈ lw_all := lw_s5 (i := 121) (by decide +kernel) (by decide +kernel)
theorem q1118 : Cond.fieldLink RX7 180 "Sandglass$Instruction" "code" "I" ∈ lw_all := lw_s5 (i := 122) (by decide +kernel) (by decide +kernel)
theorem q1119 : Cond.fieldLink RX1 16 "Sandglass$Instruction" "a" "I" ∈ lw_all := lw_s5 (i := 123) (by decide +kernel) (by decide +kernel)
theorem q1120 : Cond.fieldLink RX7 185 "Sandglass$Instruction" "a" "I" ∈ lw_all := lw_s5 (i := 124) (by decide +kernel) (by decide +kernel)
theorem q1121 : Cond.fieldLink RX1 19 "Sandglass$Instruction" "b" "I" ∈ lw_all := lw_s5 (i := 125) (by decide +kernel) (by decide +kernel)
theorem q1122 : Cond.fieldLink RX7 188 "Sandglass$Instruction" "b" "I" ∈ lw_all := lw_s5 (i := 126) (by decide +kernel) (by decide +kernel)
theorem q1132 : Cond.classLink RL 46 RX9 ∈ lw_all := lw_s5 (i := 136) (by decide +kernel) (by decide +kernel)
theorem q1133 : Cond.instantiable RX9 35 ∈ lw_all := lw_s5 (i := 137) (by decide +kernel) (by decide +kernel)
theorem q1134 : Cond.methodLink RL 48 yX9_init ∈ lw_all := lw_s5 (i := 138) (by decide +kernel) (by decide +kernel)
theorem q1135 : Cond.instanceMethod yX9_init ∈ lw_all := lw_s5 (i := 139) (by decide +kernel) (by decide +kernel)
theorem q1136 : Cond.code yX9_init prog_11_method_1_code 7 (Option.none : Option Jvm.ClassFile.FieldType) ∈ lw_all := lw_s5 (i := 140) (by rfl) (by rfl)
theorem q1137 : Cond.methodLink RX9 1 ⟨"java/lang/Object", "<init>", "()V"⟩ ∈ lw_all := lw_s5 (i := 141) (by decide +kernel) (by decide +kernel)
theorem q1138 : Cond.classLink RX9 44 "[[I" ∈ lw_all := lw_s5 (i := 142) (by decide +kernel) (by decide +kernel)
theorem q1139 : Cond.methodLink RX9 98 ⟨"[I", "clone", "()Ljava/lang/Object;"⟩ ∈ lw_all := lw_s5 (i := 143) (by decide +kernel) (by decide +kernel)
theorem q1140 : Cond.sameMethod "[I" "java/lang/Object" "clone" "()Ljava/lang/Object;" ∈ lw_all := lw_s5 (i := 144) (by decide +kernel) (by decide +kernel)
theorem q1141 : Cond.native ⟨"java/lang/Object", "clone", "()Ljava/lang/Object;"⟩ ∈ lw_all := lw_s5 (i := 145) (by decide +kernel) (by decide +kernel)
theorem q1142 : Cond.instanceMethod ⟨"java/lang/Object", "clone", "()Ljava/lang/Object;"⟩ ∈ lw_all := lw_s5 (i := 146) (by decide +kernel) (by decide +kernel)
theorem q1143 : Cond.selects "[I" ⟨"[I", "clone", "()Ljava/lang/Object;"⟩ ⟨"java/lang/Object", "clone", "()Ljava/lang/Object;"⟩ ∈ lw_all := lw_s5 (i := 147) (by decide +kernel) (by decide +kernel)
theorem q1145 : Cond.classLink RX9 99 "[I" ∈ lw_all := lw_s5 (i := 149) (by decide +kernel) (by decide +kernel)
theorem q1146 : Cond.fieldLink RX9 82 "SandglassLaw$Sim" "script" "[[[I" ∈ lw_all := lw_s5 (i := 150) (by decide +kernel) (by decide +kernel)
theorem q1147 : Cond.fieldLink RX9 86 "SandglassLaw$Sim" "handler" "[I" ∈ lw_all := lw_s5 (i := 151) (by decide +kernel) (by decide +kernel)
theorem q1148 : Cond.fieldLink RX9 89 "SandglassLaw$Sim" "kind" "[I" ∈ lw_all := lw_s5 (i := 152) (by decide +kernel) (by decide +kernel)
theorem q1149 : Cond.fieldLink RX9 92 "SandglassLaw$Sim" "units" "[I" ∈ lw_all := lw_s5 (i := 153) (by decide +kernel) (by decide +kernel)
theorem q1150 : Cond.fieldLink RL 156 "SandglassLaw$Sim" "units" "[I" ∈ lw_all := lw_s5 (i := 154) (by decide +kernel) (by decide +kernel)
theorem q1151 : Cond.fieldLink RX9 106 "SandglassLaw$Sim" "free" "[I" ∈ lw_all := lw_s5 (i := 155) (by decide +kernel) (by decide +kernel)
theorem q1152 : Cond.fieldLink RX9 95 "SandglassLaw$Sim" "room" "[I" ∈ lw_all := lw_s5 (i := 156) (by decide +kernel) (by decide +kernel)
theorem q1153 : Cond.fieldLink RL 159 "SandglassLaw$Sim" "room" "[I" ∈ lw_all := lw_s5 (i := 157) (by decide +kernel) (by decide +kernel)
theorem q1154 : Cond.fieldLink RX9 103 "SandglassLaw$Sim" "level" "[I" ∈ lw_all := lw_s5 (i := 158) (by decide +kernel) (by decide +kernel)
theorem q1155 : Cond.fieldLink RX9 7 "SandglassLaw$Sim" "of" "[I" ∈ lw_all := lw_s5 (i := 159) (by decide +kernel) (by decide +kernel)
theorem q1156 : Cond.fieldLink RX9 13 "SandglassLaw$Sim" "rank" "[I" ∈ lw_all := lw_s5 (i := 160) (by decide +kernel) (by decide +kernel)
theorem q1157 : Cond.fieldLink RX9 16 "SandglassLaw$Sim" "place" "[I" ∈ lw_all := lw_s5 (i := 161) (by decide +kernel) (by decide +kernel)
theorem q1158 : Cond.fieldLink RX9 19 "SandglassLaw$Sim" "mark" "[I" ∈ lw_all := lw_s5 (i := 162) (by decide +kernel) (by decide +kernel)
theorem q1159 : Cond.fieldLink RX9 22 "SandglassLaw$Sim" "rest" "[I" ∈ lw_all := lw_s5 (i := 163) (by decide +kernel) (by decide +kernel)
theorem q1160 : Cond.fieldLink RX9 25 "SandglassLaw$Sim" "state" "[I" ∈ lw_all := lw_s5 (i := 164) (by decide +kernel) (by decide +kernel)
theorem q1161 : Cond.fieldLink RX9 28 "SandglassLaw$Sim" "when" "[I" ∈ lw_all := lw_s5 (i := 165) (by decide +kernel) (by decide +kernel)
theorem q1162 : Cond.fieldLink RX9 31 "SandglassLaw$Sim" "order" "[I" ∈ lw_all := lw_s5 (i := 166) (by decide +kernel) (by decide +kernel)
theorem q1163 : Cond.fieldLink RX9 34 "SandglassLaw$Sim" "wants" "[I" ∈ lw_all := lw_s5 (i := 167) (by decide +kernel) (by decide +kernel)
theorem q1164 : Cond.fieldLink RX9 37 "SandglassLaw$Sim" "where" "[I" ∈ lw_all := lw_s5 (i := 168) (by decide +kernel) (by decide +kernel)
theorem q1165 : Cond.fieldLink RX9 40 "SandglassLaw$Sim" "isOut" "[Z" ∈ lw_all := lw_s5 (i := 169) (by decide +kernel) (by decide +kernel)
theorem q1166 : Cond.fieldLink RX9 46 "SandglassLaw$Sim" "count" "[[I" ∈ lw_all := lw_s5 (i := 170) (by decide +kernel) (by decide +kernel)
theorem q1167 : Cond.fieldLink RX9 49 "SandglassLaw$Sim" "has" "[[I" ∈ lw_all := lw_s5 (i := 171) (by decide +kernel) (by decide +kernel)
theorem q1168 : Cond.fieldLink RX9 52 "SandglassLaw$Sim" "got" "[[I" ∈ lw_all := lw_s5 (i := 172) (by decide +kernel) (by decide +kernel)
theorem q1169 : Cond.fieldLink RX9 55 "SandglassLaw$Sim" "row" "[[I" ∈ lw_all := lw_s5 (i := 173) (by decide +kernel) (by decide +kernel)
theorem q1170 : Cond.fieldLink RX9 58 "SandglassLaw$Sim" "long0" "[I" ∈ lw_all := lw_s5 (i := 174) (by decide +kernel) (by decide +kernel)
theorem q1171 : Cond.fieldLink RX9 61 "SandglassLaw$Sim" "rankIn" "[I" ∈ lw_all := lw_s5 (i := 175) (by decide +kernel) (by decide +kernel)
theorem q1172 : Cond.fieldLink RX9 64 "SandglassLaw$Sim" "busy" "[I" ∈ lw_all := lw_s5 (i := 176) (by decide +kernel) (by decide +kernel)
theorem q1173 : Cond.fieldLink RX9 67 "SandglassLaw$Sim" "waited" "[I" ∈ lw_all := lw_s5 (i := 177) (by decide +kernel) (by decide +kernel)
theorem q1174 : Cond.fieldLink RX9 70 "SandglassLaw$Sim" "longest" "[I" ∈ lw_all := lw_s5 (i := 178) (by decide +kernel) (by decide +kernel)
theorem q1175 : Cond.fieldLink RX9 73 "SandglassLaw$Sim" "area" "[I" ∈ lw_all := lw_s5 (i := 179) (by decide +kernel) (by decide +kernel)
theorem q1176 : Cond.fieldLink RX9 76 "SandglassLaw$Sim" "tallied" "[[I" ∈ lw_all := lw_s5 (i := 180) (by decide +kernel) (by decide +kernel)
theorem q1177 : Cond.fieldLink RX9 79 "SandglassLaw$Sim" "tallies" "[I" ∈ lw_all := lw_s5 (i := 181) (by decide +kernel) (by decide +kernel)
theorem q1249 : Cond.arrayClass ClassFile.FieldType.boolean ∈ lw_all := lw_s6 (i := 13) (by decide +kernel) (by decide +kernel)
theorem q1250 : Cond.methodLink RL 162 yL_isSound ∈ lw_all := lw_s6 (i := 14) (by decide +kernel) (by decide +kernel)
theorem q1251 : Cond.static yL_isSound ∈ lw_all := lw_s6 (i := 15) (by decide +kernel) (by decide +kernel)
theorem q1252 : Cond.code yL_isSound method_5_code 8 (Option.some ClassFile.FieldType.boolean) ∈ lw_all := lw_s6 (i := 16) (by rfl) (by rfl)
theorem q1253 : Cond.methodLink RL 63 yX8_restOf ∈ lw_all := lw_s6 (i := 17) (by decide +kernel) (by decide +kernel)
theorem q1254 : Cond.methodLink RL 66 yX8_markOf ∈ lw_all := lw_s6 (i := 18) (by decide +kernel) (by decide +kernel)
theorem q1255 : Cond.methodLink RL 78 yX8_free ∈ lw_all := lw_s6 (i := 19) (by decide +kernel) (by decide +kernel)
theorem q1256 : Cond.methodLink RL 84 yX8_longest ∈ lw_all := lw_s6 (i := 20) (by decide +kernel) (by decide +kernel)
theorem q1257 : Cond.methodLink RL 87 yX8_queued ∈ lw_all := lw_s6 (i := 21) (by decide +kernel) (by decide +kernel)
theorem q1258 : Cond.methodLink RL 90 yX8_queueing ∈ lw_all := lw_s6 (i := 22) (by decide +kernel) (by decide +kernel)
theorem q1259 : Cond.methodLink RL 93 yX8_queuedAt ∈ lw_all := lw_s6 (i := 23) (by decide +kernel) (by decide +kernel)
theorem q1260 : Cond.methodLink RL 96 yX8_level ∈ lw_all := lw_s6 (i := 24) (by decide +kernel) (by decide +kernel)
theorem q1261 : Cond.methodLink RL 99 yX8_area ∈ lw_all := lw_s6 (i := 25) (by decide +kernel) (by decide +kernel)
theorem q1262 : Cond.methodLink RL 102 yX8_blocked ∈ lw_all := lw_s6 (i := 26) (by decide +kernel) (by decide +kernel)
theorem q1263 : Cond.methodLink RL 106 yX8_awaiting ∈ lw_all := lw_s6 (i := 27) (by decide +kernel) (by decide +kernel)
theorem q1281 : Cond.sameMethod "[Ljava/lang/Object;" "java/lang/Object" "getClass" "()Ljava/lang/Class;" ∈ lw_all := lw_s6 (i := 45) (by decide +kernel) (by decide +kernel)
theorem q1282 : Cond.selects "[Ljava/lang/Object;" ⟨"java/lang/Object", "getClass", "()Ljava/lang/Class;"⟩ ⟨"java/lang/Object", "getClass", "()Ljava/lang/Class;"⟩ ∈ lw_all := lw_s6 (i := 46) (by decide +kernel) (by decide +kernel)
end
section
/-! THE FLAT MEMORY of one kernel: object k, slot j, and how the heap holds it -/
abbrev Mem : Type := Nat → Nat → Int32
/-- one slot anew -/
def put (μ : Mem) (k j : Nat) (v : Int32) : Mem := fun x => if x = k then upd (μ k) j v else μ x
theorem put_at (μ : Mem) (k j : Nat) (v : Int32) : put μ k j v k = upd (μ k) j v := by simp [put]
theorem put_ne (μ : Mem) {k x : Nat} (j : Nat) (v : Int32) (h : x ≠ k) : put μ k j v x = μ x := by simp [put, h]
/-- where it lies: addresses, classes of the tables, classes of arrays, sizes (0 resources, 1 stores, 2 scripts, 3 tallies, 10 + j length of script j), addresses of foreign cells (0 scripts list, 1 tallies list) -/
abbrev Geo : Type := (Nat → Nat) × va_G × (Nat → ClassId) × (Nat → Nat)
abbrev Geo.ad (g : Geo) : Nat → Nat := g.1
abbrev Geo.D (g : Geo) : va_G := g.2.1
abbrev Geo.cy (g : Geo) : Nat → ClassId := g.2.2.1
abbrev Geo.sz (g : Geo) : Nat → Nat := g.2.2.2
/-- the classes of arrays: ints, processes, things -/
abbrev Geo.tys (g : Geo) : List (ClassId × FieldType) := [(g.cy 0, .int), (g.cy 1, .object "Sandglass$Proc"), (g.cy 2, .object "java/lang/Object")]
/-- a script by its number, none below 0 -/
def sref (g : Geo) (x : Int32) : Value := if x < 0 then .null else .ref (g.ad (114 + x.toNatClampNeg))
/-- a list of n things, its row lying at e -/
def obL (e n : Nat) : va_E := .inr (0, [.int 0, .ref e, .int (nI n)])
/-- what object k holds -/
def ob (g : Geo) (k : Nat) (m : Nat → Int32) : va_E :=
  if k = 0 then .inr (8, [.ref (g.ad 112), .ref (g.ad 266), .ref (g.ad 98), .ref (g.ad 100), .ref (g.ad 97), .int (m 5), .int (m 6), .int (m 7), .int (m 8), .int (m 9)])
  else if k < 25 then .inr (3, [.int (m 0), sref g (m 1), .int (m 2), .int (m 3), .int (m 4), .int (m 5), .int (m 6), .int (m 7), .int (m 8), .int (m 9), .int (m 10), .int (m 11), .int (m 12), .int (m 13), .ref (g.ad (k + 24)), .ref (g.ad (k + 48)), .ref (g.ad (k + 72))])
  else if k < 49 then .inl (g.cy 0, 16, .inl m)
  else if k < 97 then .inl (g.cy 0, 6, .inl m)
  else if k = 97 then .inl (g.cy 1, 24, .inr (.inr (.inr (.inr (fun i => some (g.ad (i + 1)))))))
  else if k = 98 then obL (g.ad 99) (g.sz 0)
  else if k = 99 then .inl (g.cy 2, 10, .inr (.inr (.inr (.inr (fun i => if i < g.sz 0 then some (g.ad (102 + i)) else none)))))
  else if k = 100 then obL (g.ad 101) (g.sz 1)
  else if k = 101 then .inl (g.cy 2, 10, .inr (.inr (.inr (.inr (fun i => if i < g.sz 1 then some (g.ad (108 + i)) else none)))))
  else if k < 108 then .inr (4, [.int (m 0), .int (m 1), .int (m 2), .int (m 3), .int (m 4), .int (m 5), .int (m 6)])
  else if k < 112 then .inr (6, [.int (m 0), .int (m 1), .int (m 2), .int (m 3)])
  else if k = 112 then obL (g.ad 113) (g.sz 2)
  else if k = 113 then .inl (g.cy 2, 10, .inr (.inr (.inr (.inr (fun i => if i < g.sz 2 then some (g.ad (114 + i)) else none)))))
  else if k < 122 then .inr (5, [.ref (g.ad (k + 8)), .int (m 1)])
  else if k < 130 then obL (g.ad (k + 8)) (g.sz (k - 112))
  else if k < 138 then .inl (g.cy 2, 10, .inr (.inr (.inr (.inr (fun i => if i < g.sz (k - 120) then some (g.ad (138 + 16 * (k - 130) + i)) else none)))))
  else if k < 266 then .inr (2, [.int (m 0), .int (m 1), .int (m 2), .int (m 3)])
  else obL (g.ad 267) (g.sz 3)
/-- which objects there are -/
def pres (g : Geo) (k : Nat) : Bool :=
  if k < 102 then true
  else if k < 108 then decide (k < 102 + g.sz 0)
  else if k < 112 then decide (k < 108 + g.sz 1)
  else if k < 114 then true
  else if k < 122 then decide (k < 114 + g.sz 2)
  else if k < 130 then decide (k < 122 + g.sz 2)
  else if k < 138 then decide (k < 130 + g.sz 2 ∧ 0 < g.sz (k - 120))
  else if k < 266 then decide ((k - 138) / 16 < g.sz 2 ∧ (k - 138) % 16 < g.sz (10 + (k - 138) / 16))
  else decide (k = 266)
def Geo.idx (g : Geo) : List Nat := (List.range 267).filter (pres g)
def obs (g : Geo) (μ : Mem) : va_W := g.idx.map (fun k => (g.ad k, ob g k (μ k)))
/-- different objects lie apart, and there are not more than can be -/
def Good (g : Geo) : Prop := (∀ i j, i ∈ g.idx → j ∈ g.idx → g.ad i = g.ad j → i = j) ∧ g.sz 0 ≤ 6 ∧ g.sz 1 ≤ 4 ∧ g.sz 2 ≤ 8 ∧ ∀ j, g.sz (10 + j) ≤ 10
theorem idx_nodup (g : Geo) : g.idx.Nodup := List.Nodup.sublist (List.filter_sublist) (List.nodup_range)
theorem nodup_inj : ∀ (l : List Nat), l.Nodup → ∀ (i j a : Nat), l[i]? = some a → l[j]? = some a → i = j
  | [], _, i, j, a, h, _ => by simp at h
  | b :: l, hn, i, j, a, h1, h2 => by
    obtain ⟨hb, hl⟩ := List.nodup_cons.mp hn
    cases i with
    | zero =>
      cases j with
      | zero => rfl
      | succ j =>
        rw [List.getElem?_cons_zero] at h1
        rw [List.getElem?_cons_succ] at h2
        cases h1
        exact absurd (List.mem_of_getElem? h2) hb
    | succ i =>
      rw [List.getElem?_cons_succ] at h1
      cases j with
      | zero =>
        rw [List.getElem?_cons_zero] at h2
        cases h2
        exact absurd (List.mem_of_getElem? h1) hb
      | succ j =>
        rw [List.getElem?_cons_succ] at h2
        rw [nodup_inj l hl i j a h1 h2]
theorem mem_idx {g : Geo} {k : Nat} : k ∈ g.idx ↔ k < 267 ∧ pres g k = true := by simp [Geo.idx, List.mem_filter]
theorem obs_get {g : Geo} {μ : Mem} {k : Nat} (h : k ∈ g.idx) : ∃ j : Nat, g.idx[j]? = some k ∧ (obs g μ)[j]? = some (g.ad k, ob g k (μ k)) := by
  obtain ⟨j, hj⟩ := List.getElem?_of_mem h
  exact ⟨j, hj, by simp [obs, hj]⟩
theorem obs_set {g : Geo} {μ μ' : Mem} {k j : Nat} (hj : g.idx[j]? = some k) (ho : ∀ x, x ≠ k → μ' x = μ x) : (obs g μ).set j (g.ad k, ob g k (μ' k)) = obs g μ' := by
  have hl : j < g.idx.length := (List.getElem?_eq_some_iff.mp hj).1
  apply List.ext_getElem?
  intro i
  by_cases hi : i = j
  · subst hi
    rw [List.getElem?_set_self (by simp [obs]; exact hl)]
    simp [obs, hj]
  · rw [List.getElem?_set_ne (Ne.symm hi)]
    simp only [obs, List.getElem?_map]
    cases hx : g.idx[i]? with
    | none => rfl
    | some x =>
      have hne : x ≠ k := by
        intro e
        subst e
        exact hi (nodup_inj _ (idx_nodup g) i j x hx hj)
      simp [ho x hne]
theorem obs_apart {g : Geo} (hg : Good g) {A : Nat → Prop} (hA : ∀ k, k ∈ g.idx → A (g.ad k)) (μ : Mem) : va_D A (obs g μ) := by
  refine ⟨fun i j p q hi hj hpq => ?_, fun k q hk => ?_⟩
  · simp only [obs, List.getElem?_map] at hi hj
    cases hx : g.idx[i]? with
    | none => rw [hx] at hi; cases hi
    | some x =>
      cases hy : g.idx[j]? with
      | none => rw [hy] at hj; cases hj
      | some y =>
        rw [hx] at hi; rw [hy] at hj
        have e1 : (g.ad x, ob g x (μ x)) = p := Option.some.inj hi
        have e2 : (g.ad y, ob g y (μ y)) = q := Option.some.inj hj
        subst e1 e2
        have e := hg.1 x y (List.mem_of_getElem? hx) (List.mem_of_getElem? hy) hpq
        subst e
        exact nodup_inj _ (idx_nodup g) i j x hx hy
  · simp only [obs, List.getElem?_map] at hk
    cases hx : g.idx[k]? with
    | none => rw [hx] at hk; cases hk
    | some x =>
      rw [hx] at hk
      have e1 : (g.ad x, ob g x (μ x)) = q := Option.some.inj hk
      subst e1
      exact hA x (List.mem_of_getElem? hx)
/-- the kernel lies in H -/
def Rg (g : Geo) (μ : Mem) (H : Heap) : Prop := va_P g.D vwCl (obs g μ) H
theorem Rg.keep {g : Geo} {μ : Mem} {H H1 : Heap} (h : Rg g μ H) (hk : ∀ q : Nat, q < H.size → H1[q]? = H[q]?) : Rg g μ H1 := va_P.kept h (fun k q hq => hk q.1 (h k q hq).lt)
theorem Rg.cell {g : Geo} {μ : Mem} {H : Heap} (h : Rg g μ H) {k : Nat} (hk : k ∈ g.idx) : va_at g.D vwCl (g.ad k, ob g k (μ k)) H := by
  obtain ⟨j, -, hj⟩ := obs_get (g := g) (μ := μ) hk
  exact h j _ hj

/-! kinds of objects, by their numbers -/
def isP (k : Nat) : Prop := 1 ≤ k ∧ k < 25
def isA (k : Nat) : Prop := 25 ≤ k ∧ k < 97
def isR (g : Geo) (k : Nat) : Prop := 102 ≤ k ∧ k < 102 + g.sz 0 ∧ k < 108
def isS (g : Geo) (k : Nat) : Prop := 108 ≤ k ∧ k < 108 + g.sz 1 ∧ k < 112
def isC (g : Geo) (k : Nat) : Prop := 114 ≤ k ∧ k < 114 + g.sz 2 ∧ k < 122
def isN (g : Geo) (k : Nat) : Prop := 138 ≤ k ∧ k < 266 ∧ (k - 138) / 16 < g.sz 2 ∧ (k - 138) % 16 < g.sz (10 + (k - 138) / 16)
def alen (k : Nat) : Nat := if k < 49 then 16 else 6
abbrev fsW (g : Geo) (m : Nat → Int32) : List Value := [.ref (g.ad 112), .ref (g.ad 266), .ref (g.ad 98), .ref (g.ad 100), .ref (g.ad 97), .int (m 5), .int (m 6), .int (m 7), .int (m 8), .int (m 9)]
abbrev fsP (g : Geo) (k : Nat) (m : Nat → Int32) : List Value := [.int (m 0), sref g (m 1), .int (m 2), .int (m 3), .int (m 4), .int (m 5), .int (m 6), .int (m 7), .int (m 8), .int (m 9), .int (m 10), .int (m 11), .int (m 12), .int (m 13), .ref (g.ad (k + 24)), .ref (g.ad (k + 48)), .ref (g.ad (k + 72))]
abbrev fsR (m : Nat → Int32) : List Value := [.int (m 0), .int (m 1), .int (m 2), .int (m 3), .int (m 4), .int (m 5), .int (m 6)]
abbrev fsS (m : Nat → Int32) : List Value := [.int (m 0), .int (m 1), .int (m 2), .int (m 3)]
abbrev fsC (g : Geo) (k : Nat) (m : Nat → Int32) : List Value := [.ref (g.ad (k + 8)), .int (m 1)]
theorem obW (g : Geo) (m : Nat → Int32) : ob g 0 m = .inr (8, fsW g m) := by simp [ob]
theorem obP {g : Geo} {k : Nat} (h : isP k) (m : Nat → Int32) : ob g k m = .inr (3, fsP g k m) := by
  obtain ⟨h1, h2⟩ := h
  unfold ob
  rw [if_neg (by omega), if_pos h2]
theorem obA {g : Geo} {k : Nat} (h : isA k) (m : Nat → Int32) : ob g k m = .inl (g.cy 0, alen k, .inl m) := by
  obtain ⟨h1, h2⟩ := h
  unfold ob alen
  rw [if_neg (by omega), if_neg (by omega)]
  by_cases h3 : k < 49
  · rw [if_pos h3, if_pos h3]
  · rw [if_neg h3, if_neg h3, if_pos h2]
theorem obPA (g : Geo) (m : Nat → Int32) : ob g 97 m = .inl (g.cy 1, 24, .inr (.inr (.inr (.inr (fun i => some (g.ad (i + 1))))))) := by simp [ob]
theorem obR {g : Geo} {k : Nat} (h : isR g k) (m : Nat → Int32) : ob g k m = .inr (4, fsR m) := by
  obtain ⟨h1, -, h2⟩ := h
  unfold ob
  rw [if_neg (by omega), if_neg (by omega), if_neg (by omega), if_neg (by omega), if_neg (by omega), if_neg (by omega), if_neg (by omega), if_neg (by omega), if_neg (by omega), if_pos h2]
theorem obS {g : Geo} {k : Nat} (h : isS g k) (m : Nat → Int32) : ob g k m = .inr (6, fsS m) := by
  obtain ⟨h1, -, h2⟩ := h
  unfold ob
  rw [if_neg (by omega), if_neg (by omega), if_neg (by omega), if_neg (by omega), if_neg (by omega), if_neg (by omega), if_neg (by omega), if_neg (by omega), if_neg (by omega), if_neg (by omega), if_pos h2]
theorem obC {g : Geo} {k : Nat} (h : isC g k) (m : Nat → Int32) : ob g k m = .inr (5, fsC g k m) := by
  obtain ⟨h1, -, h2⟩ := h
  unfold ob
  rw [if_neg (by omega), if_neg (by omega), if_neg (by omega), if_neg (by omega), if_neg (by omega), if_neg (by omega), if_neg (by omega), if_neg (by omega), if_neg (by omega), if_neg (by omega), if_neg (by omega), if_neg (by omega), if_neg (by omega), if_pos h2]
theorem obN {g : Geo} {k : Nat} (h : isN g k) (m : Nat → Int32) : ob g k m = .inr (2, fsS m) := by
  obtain ⟨h1, h2, -⟩ := h
  unfold ob
  rw [if_neg (by omega), if_neg (by omega), if_neg (by omega), if_neg (by omega), if_neg (by omega), if_neg (by omega), if_neg (by omega), if_neg (by omega), if_neg (by omega), if_neg (by omega), if_neg (by omega), if_neg (by omega), if_neg (by omega), if_neg (by omega), if_neg (by omega), if_neg (by omega), if_pos h2]
theorem inBase {g : Geo} {k : Nat} (h : k < 102) : k ∈ g.idx := mem_idx.mpr ⟨by omega, by simp [pres, h]⟩
theorem inW {g : Geo} : 0 ∈ g.idx := inBase (by decide)
theorem inP {g : Geo} {k : Nat} (h : isP k) : k ∈ g.idx := inBase (by have := h.2; omega)
theorem inA {g : Geo} {k : Nat} (h : isA k) : k ∈ g.idx := inBase (by have := h.2; omega)
theorem inR {g : Geo} {k : Nat} (h : isR g k) : k ∈ g.idx := by
  obtain ⟨h1, h2, h3⟩ := h
  exact mem_idx.mpr ⟨by omega, by unfold pres; rw [if_neg (by omega), if_pos h3]; exact decide_eq_true h2⟩
theorem inS {g : Geo} {k : Nat} (h : isS g k) : k ∈ g.idx := by
  obtain ⟨h1, h2, h3⟩ := h
  exact mem_idx.mpr ⟨by omega, by unfold pres; rw [if_neg (by omega), if_neg (by omega), if_pos h3]; exact decide_eq_true h2⟩
theorem inC {g : Geo} {k : Nat} (h : isC g k) : k ∈ g.idx := by
  obtain ⟨h1, h2, h3⟩ := h
  exact mem_idx.mpr ⟨by omega, by unfold pres; rw [if_neg (by omega), if_neg (by omega), if_neg (by omega), if_neg (by omega), if_pos h3]; exact decide_eq_true h2⟩
theorem inN {g : Geo} {k : Nat} (h : isN g k) : k ∈ g.idx := by
  obtain ⟨h1, h2, h3, h4⟩ := h
  exact mem_idx.mpr ⟨by omega, by unfold pres; rw [if_neg (by omega), if_neg (by omega), if_neg (by omega), if_neg (by omega), if_neg (by omega), if_neg (by omega), if_neg (by omega), if_pos h2]; exact decide_eq_true ⟨h3, h4⟩⟩
theorem isP.cnt {k : Nat} (h : isP k) : isA (k + 24) := ⟨by have := h.1; omega, by have := h.2; omega⟩
theorem isP.hld {k : Nat} (h : isP k) : isA (k + 48) := ⟨by have := h.1; omega, by have := h.2; omega⟩
theorem isP.got {k : Nat} (h : isP k) : isA (k + 72) := ⟨by have := h.1; omega, by have := h.2; omega⟩
end
section
/-! ROWS over the flat memory: an instruction of a method that works on a kernel -/
/-- what the tables give any method: the classes, the private statics of a nest mate -/
def xnest : List (String × Nat × MethodName) := [(RX2, 66, yX8_copyRow), (RX2, 76, yX8_at), (RX5, 24, yX8_isIn), (RX7, 251, yX8_at), (RX7, 255, yX8_set), (RX6, 83, yX8_set), (RX6, 87, yX8_at)]
def Tb (g : Geo) (U : State) : Prop := va_K g.D vwCl g.tys U ∧ ∀ q ∈ xnest, va_Nw (.methodLinkNest q.1 q.2.1 q.2.2 "Sandglass") U
theorem Tb.warm {g : Geo} {s U : State} (hW : s.WarmedH U.vm) (h : Tb g s) : Tb g U := ⟨va_K.moved hW.alike h.1, fun q hq => va_Nw.warmM hW (h.2 q hq)⟩
theorem Tb.call {g : Geo} {U : State} {f : JFrame} {mk : MethodId} {a : Array Value} (h : Tb g U) : Tb g (U.calling f mk a) := ⟨va_K.moved (u := U) (U := U.calling f mk a) (Vm.Alike.refl U.vm) h.1, fun q hq => va_Nw.same (u := U) (U := U.calling f mk a) rfl rfl (h.2 q hq)⟩
/-- a method's start: its arguments, the tables, a picture of the heap -/
def Pz (g : Geo) (av : List Value) (PH : Heap → Prop) : Array Value → State → Prop := va_Pc av (fun U => Tb g U ∧ PH U.heap)
theorem Pz.blind {g : Geo} {av : List Value} {PH : Heap → Prop} : FrameBlind (Pz g av PH) := fun _ _ _ _ h => ⟨h.1, Tb.call h.2.1, h.2.2⟩
/-- what a method that writes may change -/
def Ag (g : Geo) (sz : Nat) : Nat → Prop := fun q => (∃ k, k ∈ g.idx ∧ q = g.ad k) ∨ sz ≤ q
theorem Ag.sub {g : Geo} {z : Nat} {H0 H : Heap} {locs : List Loc} (hz : z = H0.size) (hS : va_S (Ag g z) H0 H locs) : ∀ q, Ag g H.size q → Ag g z q := fun q h => h.elim Or.inl (fun h => Or.inr (by have := hS.1; omega))
theorem Ag.apart {g : Geo} (hg : Good g) (z : Nat) (ν : Mem) : va_D (Ag g z) (obs g ν) := obs_apart hg (fun k hk => Or.inl ⟨k, hk, rfl⟩) ν
/-- the code's words -/
abbrev ws_ (y : MethodName) (b : ByteArray) (n : Nat) (r : Option FieldType) : List Cond := Cond.code y b n r :: lw_all
abbrev rm_ (f l mc ms : Nat) : Room := { frames := f, cells := mc, slots := ms, locals := l }
/-! combinators of the functions that say what a method does -/
def bnd {α β : Type} (x : α) (k : α → β) : β := k x
theorem bnd_eq {α β : Type} {x : α} {k : α → Option β} {r : β} (h : bnd x k = some r) : ∀ y, x = y → k y = some r := fun _ e => e ▸ h
def grd {α : Type} (c : Prop) [Decidable c] (x : Option α) : Option α := if c then x else none
theorem grd_some {α : Type} {c : Prop} [Decidable c] {x : Option α} {r : α} (h : grd c x = some r) : c ∧ x = some r := by
  unfold grd at h
  by_cases hc : c
  · rw [if_pos hc] at h; exact ⟨hc, h⟩
  · rw [if_neg hc] at h; cases h
def bnO {α β : Type} (x : Option α) (k : α → Option β) : Option β := match x with
  | none => none
  | some a => k a
theorem bnO_some {α β : Type} {x : Option α} {k : α → Option β} {r : β} (h : bnO x k = some r) : ∃ a, x = some a ∧ k a = some r := by
  cases x with
  | none => cases h
  | some a => exact ⟨a, rfl, h⟩
def bn2 {α γ β : Type} (x : Option (α × γ)) (k : α → γ → Option β) : Option β := match x with
  | none => none
  | some a => k a.1 a.2
theorem bn2_some {α γ β : Type} {x : Option (α × γ)} {k : α → γ → Option β} {r : β} (h : bn2 x k = some r) : ∃ a c, x = some (a, c) ∧ k a c = some r := by
  cases x with
  | none => cases h
  | some a => exact ⟨a.1, a.2, rfl, h⟩
def csQ {α β : Type} (x : Option α) (a : β) (k : α → β) : β := match x with
  | none => a
  | some v => k v
def fu : Nat := 1000
/-- the script that a number tells -/
def srf (x : Int32) : Option Nat := if x < 0 then none else some (114 + x.toNatClampNeg)
theorem sref_srf (g : Geo) (x : Int32) : sref g x = va_rf ((srf x).map g.ad) := by
  unfold sref srf
  by_cases h : x < 0
  · rw [if_pos h, if_pos h]; rfl
  · rw [if_neg h, if_neg h]; rfl
theorem sref_nI {g : Geo} {k : Nat} (h : isC g k) : sref g (nI (k - 114)) = .ref (g.ad k) := by
  obtain ⟨h1, -, h2⟩ := h
  unfold sref
  rw [if_neg (nI_pos (by omega)), nI_clamp (by omega)]
  congr 2
  omega
theorem set_script {g : Geo} {t k : Nat} {n : Nat → Int32} (h : isC g k) : fsP g t (upd n 1 (nI (k - 114))) = (fsP g t n).set 1 (.ref (g.ad k)) := by
  rw [← sref_nI h]
  rfl
theorem set_scriptN {g : Geo} {t : Nat} {n : Nat → Int32} : fsP g t (upd n 1 (-1)) = (fsP g t n).set 1 .null := by
  rw [← (show sref g (-1) = .null from if_pos (by decide))]
  rfl
theorem nar01 {x : Int32} (h : x = 0 ∨ x = 1) : narrow .boolean (.int x) = .int x := by
  rcases h with rfl | rfl <;> rfl
theorem fit01 {x : Int32} (h : x = 0 ∨ x = 1) : fits .boolean (.int x) = true := by
  rcases h with rfl | rfl <;> rfl
theorem sw_out {x : Int32} {n : Nat} (h : ∀ k, k < n → ¬ x = nI k) : x.toInt < 0 ∨ (n : Int) - 1 < x.toInt := by
  by_cases h0 : x < 0
  · exact Or.inl (by simpa using Int32.lt_iff_toInt_lt.mp h0)
  · obtain ⟨j, hj, e⟩ := nI_of h0
    subst e
    right
    rw [nI_toInt hj]
    rcases Nat.lt_or_ge j n with q | q
    · exact absurd rfl (h j q)
    · omega
theorem nst_0 : ((RX2, 66, yX8_copyRow) : String × Nat × MethodName) ∈ xnest := List.mem_of_getElem? (i := 0) rfl
theorem nst_1 : ((RX2, 76, yX8_at) : String × Nat × MethodName) ∈ xnest := List.mem_of_getElem? (i := 1) rfl
theorem nst_2 : ((RX5, 24, yX8_isIn) : String × Nat × MethodName) ∈ xnest := List.mem_of_getElem? (i := 2) rfl
theorem nst_3 : ((RX7, 251, yX8_at) : String × Nat × MethodName) ∈ xnest := List.mem_of_getElem? (i := 3) rfl
theorem nst_4 : ((RX7, 255, yX8_set) : String × Nat × MethodName) ∈ xnest := List.mem_of_getElem? (i := 4) rfl
theorem nst_5 : ((RX6, 83, yX8_set) : String × Nat × MethodName) ∈ xnest := List.mem_of_getElem? (i := 5) rfl
theorem nst_6 : ((RX6, 87, yX8_at) : String × Nat × MethodName) ∈ xnest := List.mem_of_getElem? (i := 6) rfl
section RG
variable {p : Program} {l : Launch} {e : Env} {R : Room} {s : State} {m : MethodId} {args : Array Value} {below : List Frame} {meth : Method} {c : Code} {H : Heap} {locs : List Loc} {cells slots : Nat} {Q : State → Prop}
variable {cc : ByteArray} {pc : Nat} {ls : Array Slot} {rest : List Value} {A : Nat → Prop} {H0 : Heap} {g : Geo} {μ : Mem} {k : Nat}
theorem r_get (hx : p.tables.exec = Jvm.exec) (hb : c.code = cc) (hts : ∀ w ∈ lw_all, w.before args s = true) {own ref C : String} {T : u_T} {N ci index : Nat} (hin : ∀ w ∈ u_ws C T N, w ∈ lw_all) (hown : s.vm.findClass own = some m.cls) (hT : Tb g s) (hP : Rg g μ H) (hk : k ∈ g.idx) {fs : (Nat → Int32) → List Value} (he : ∀ n, ob g k n = .inr (ci, fs n)) (hc : vwCl[ci]? = some (C, T, N)) (j : Nat) (hj : j < N) (hlink : Cond.fieldLink own index ref (T j).2.1 (T j).2.2.1 ∈ lw_all) (hsame : ∀ x, s.fieldFound? (T j).1 (T j).2.1 (T j).2.2.1 = some x → s.fieldFound? ref (T j).2.1 (T j).2.2.1 = some x) {v : Value} (hv : (fs (μ k))[j]? = some v) (hdg : decode cc pc = .ok (.getfield index, 3))
    (kk : W p l e R s m args below meth c H locs cells slots Q (F0 m (pc + 3) ls (v :: rest))) : W p l e R s m args below meth c H locs cells slots Q (F0 m pc ls (.ref (g.ad k) :: rest)) := by
  obtain ⟨j0, -, hj0⟩ := obs_get (g := g) (μ := μ) hk
  rw [he] at hj0
  exact va_get hx hb hts hin hown hT.1 hP j0 hj0 hc j hj (hts _ hlink) hsame hv hdg kk
theorem r_put (hx : p.tables.exec = Jvm.exec) (hb : c.code = cc) (hts : ∀ w ∈ lw_all, w.before args s = true) {own ref C : String} {T : u_T} {N ci index : Nat} (hin : ∀ w ∈ u_ws C T N, w ∈ lw_all) (ty0 : Nat → FieldType) (hty : ∀ k, k < N → parseFieldDescriptor (T k).2.2.1 = some (ty0 k)) (hnm : ∀ a, a < N → ∀ b, b < N → a ≠ b → (T a).2.1 ≠ (T b).2.1) (hown : s.vm.findClass own = some m.cls) (hT : Tb g s) (hP : Rg g μ H) (hD : ∀ ν, va_D A (obs g ν)) (hS : va_S A H0 H locs) (hk : k ∈ g.idx) {fs : (Nat → Int32) → List Value} (he : ∀ n, ob g k n = .inr (ci, fs n)) (hc : vwCl[ci]? = some (C, T, N)) (j : Nat) (hj : j < N) (hlink : Cond.fieldLink own index ref (T j).2.1 (T j).2.2.1 ∈ lw_all) (hsame : ∀ x, s.fieldFound? (T j).1 (T j).2.1 (T j).2.2.1 = some x → s.fieldFound? ref (T j).2.1 (T j).2.2.1 = some x) (hfin : (T j).2.2.2 = false) {ty : FieldType} {v : Value} {x : Int32} (hd : parseFieldDescriptor (T j).2.2.1 = some ty) (hn : narrow ty v = v) (hfit : fits ty v = true) (hset : ∀ n, fs (upd n j x) = (fs n).set j v) (hl : j < (fs (μ k)).length) (hdg : decode cc pc = .ok (.putfield index, 3))
    (kk : ∀ (H1 : Heap) (locs1 : List Loc), Rg g (put μ k j x) H1 → va_S A H0 H1 locs1 → W p l e R s m args below meth c H1 locs1 cells slots Q (F0 m (pc + 3) ls rest)) : W p l e R s m args below meth c H locs cells slots Q (F0 m pc ls (v :: .ref (g.ad k) :: rest)) := by
  obtain ⟨j0, hi0, hj0⟩ := obs_get (g := g) (μ := μ) hk
  rw [he] at hj0
  refine va_put hx hb hts hin ty0 hty hnm hown hT.1 hP (hD μ) hS j0 hj0 hc j hj (hts _ hlink) hsame hfin hd hn hfit hl hdg (fun H1 locs1 h1 _ h3 => kk H1 locs1 ?_ h3)
  have h2 := obs_set (g := g) (μ := μ) (μ' := put μ k j x) hi0 (fun y hy => put_ne μ j x hy)
  rw [he, put_at, hset] at h2
  rw [h2] at h1
  exact h1
theorem r_iald (hx : p.tables.exec = Jvm.exec) (hb : c.code = cc) (hT : Tb g s) (hP : Rg g μ H) (hk : isA k) {i : Int32} (hin : ¬ (i < 0 ∨ alen k ≤ i.toNatClampNeg)) (hdg : decode cc pc = .ok (.iaload, 1))
    (kk : W p l e R s m args below meth c H locs cells slots Q (F0 m (pc + 1) ls (.int (μ k i.toNatClampNeg) :: rest))) : W p l e R s m args below meth c H locs cells slots Q (F0 m pc ls (.int i :: .ref (g.ad k) :: rest)) := by
  obtain ⟨j0, -, hj0⟩ := obs_get (g := g) (μ := μ) (inA hk)
  rw [obA hk] at hj0
  exact va_iald hx hb hT.1 hP j0 0 hj0 rfl hin hdg kk
theorem r_iast (hx : p.tables.exec = Jvm.exec) (hb : c.code = cc) (hT : Tb g s) (hP : Rg g μ H) (hD : ∀ ν, va_D A (obs g ν)) (hS : va_S A H0 H locs) (hk : isA k) {i x : Int32} (hin : ¬ (i < 0 ∨ alen k ≤ i.toNatClampNeg)) (hdg : decode cc pc = .ok (.iastore, 1))
    (kk : ∀ (H1 : Heap) (locs1 : List Loc), Rg g (put μ k i.toNatClampNeg x) H1 → va_S A H0 H1 locs1 → W p l e R s m args below meth c H1 locs1 cells slots Q (F0 m (pc + 1) ls rest)) : W p l e R s m args below meth c H locs cells slots Q (F0 m pc ls (.int x :: .int i :: .ref (g.ad k) :: rest)) := by
  obtain ⟨j0, hi0, hj0⟩ := obs_get (g := g) (μ := μ) (inA hk)
  rw [obA hk] at hj0
  refine va_iast hx hb hT.1 hP (hD μ) hS j0 0 hj0 rfl hin hdg (fun H1 locs1 h1 _ h3 => kk H1 locs1 ?_ h3)
  have h2 := obs_set (g := g) (μ := μ) (μ' := put μ k i.toNatClampNeg x) hi0 (fun y hy => put_ne μ _ x hy)
  rw [obA hk, put_at] at h2
  rw [h2] at h1
  exact h1
theorem r_alenA (hx : p.tables.exec = Jvm.exec) (hb : c.code = cc) (hT : Tb g s) (hP : Rg g μ H) (hk : isA k) (hdg : decode cc pc = .ok (.arraylength, 1))
    (kk : W p l e R s m args below meth c H locs cells slots Q (F0 m (pc + 1) ls (.int (nI (alen k)) :: rest))) : W p l e R s m args below meth c H locs cells slots Q (F0 m pc ls (.ref (g.ad k) :: rest)) := by
  obtain ⟨j0, -, hj0⟩ := obs_get (g := g) (μ := μ) (inA hk)
  rw [obA hk] at hj0
  exact va_alen hx hb hT.1 hP j0 0 hj0 (ty := .int) rfl (v := nI (alen k)) rfl hdg kk
theorem r_alenP (hx : p.tables.exec = Jvm.exec) (hb : c.code = cc) (hT : Tb g s) (hP : Rg g μ H) (hdg : decode cc pc = .ok (.arraylength, 1))
    (kk : W p l e R s m args below meth c H locs cells slots Q (F0 m (pc + 1) ls (.int 24 :: rest))) : W p l e R s m args below meth c H locs cells slots Q (F0 m pc ls (.ref (g.ad 97) :: rest)) := by
  obtain ⟨j0, -, hj0⟩ := obs_get (g := g) (μ := μ) (inBase (g := g) (k := 97) (by decide))
  rw [obPA] at hj0
  exact va_alen hx hb hT.1 hP j0 1 hj0 (ty := .object "Sandglass$Proc") rfl (v := 24) rfl hdg kk
theorem r_aaldP (hx : p.tables.exec = Jvm.exec) (hb : c.code = cc) (hT : Tb g s) (hP : Rg g μ H) {i : Int32} (hin : ¬ (i < 0 ∨ 24 ≤ i.toNatClampNeg)) (hdg : decode cc pc = .ok (.aaload, 1))
    (kk : isP (i.toNatClampNeg + 1) → W p l e R s m args below meth c H locs cells slots Q (F0 m (pc + 1) ls (.ref (g.ad (i.toNatClampNeg + 1)) :: rest))) : W p l e R s m args below meth c H locs cells slots Q (F0 m pc ls (.int i :: .ref (g.ad 97) :: rest)) := by
  obtain ⟨j0, -, hj0⟩ := obs_get (g := g) (μ := μ) (inBase (g := g) (k := 97) (by decide))
  rw [obPA] at hj0
  exact va_aldq hx hb hT.1 hP j0 1 hj0 rfl hin hdg (kk ⟨by omega, by omega⟩)
theorem r_recv (hT : Tb g s) (hP : Rg g μ H) (hk : k ∈ g.idx) {ci : Nat} {fs : (Nat → Int32) → List Value} (he : ∀ n, ob g k n = .inr (ci, fs n)) {q : vw_C} (hc : vwCl[ci]? = some q) : ∃ cell : Cell, H[g.ad k]? = some cell ∧ cell.vm.isStatics = false ∧ s.vm.findClass q.1 = some cell.cls := by
  obtain ⟨j0, -, hj0⟩ := obs_get (g := g) (μ := μ) hk
  rw [he] at hj0
  exact va_recv hT.1 hP hc hj0
theorem r_acmp_eq (hx : p.tables.exec = Jvm.exec) (hb : c.code = cc) (hg : Good g) {x y : Nat} (h1 : x ∈ g.idx) (h2 : y ∈ g.idx) {off : Int} {tgt : Nat} (hdg : decode cc pc = .ok (.if_acmp .eq off, 3)) (ht : (pc : Int) + off = (tgt : Int))
    (kt : x = y → W p l e R s m args below meth c H locs cells slots Q (F0 m tgt ls rest)) (kf : ¬ x = y → W p l e R s m args below meth c H locs cells slots Q (F0 m (pc + 3) ls rest)) : W p l e R s m args below meth c H locs cells slots Q (F0 m pc ls (.ref (g.ad y) :: .ref (g.ad x) :: rest)) :=
  lv_acmp_eq (rx := some (g.ad x)) (ry := some (g.ad y)) hx hb hdg ht (fun h => kt (hg.1 x y h1 h2 (Option.some.inj h))) (fun h => kf (fun z => h (by rw [z])))
theorem r_acmp_ne (hx : p.tables.exec = Jvm.exec) (hb : c.code = cc) (hg : Good g) {x y : Nat} (h1 : x ∈ g.idx) (h2 : y ∈ g.idx) {off : Int} {tgt : Nat} (hdg : decode cc pc = .ok (.if_acmp .ne off, 3)) (ht : (pc : Int) + off = (tgt : Int))
    (kt : ¬ x = y → W p l e R s m args below meth c H locs cells slots Q (F0 m tgt ls rest)) (kf : x = y → W p l e R s m args below meth c H locs cells slots Q (F0 m (pc + 3) ls rest)) : W p l e R s m args below meth c H locs cells slots Q (F0 m pc ls (.ref (g.ad y) :: .ref (g.ad x) :: rest)) :=
  lv_acmp_ne (rx := some (g.ad x)) (ry := some (g.ad y)) hx hb hdg ht (fun h => kt (fun z => h (by rw [z]))) (fun h => kf (hg.1 x y h1 h2 (Option.some.inj h)))
theorem r_acmp_neN (hx : p.tables.exec = Jvm.exec) (hb : c.code = cc) {x : Nat} {off : Int} {tgt : Nat} (hdg : decode cc pc = .ok (.if_acmp .ne off, 3)) (ht : (pc : Int) + off = (tgt : Int))
    (kt : W p l e R s m args below meth c H locs cells slots Q (F0 m tgt ls rest)) : W p l e R s m args below meth c H locs cells slots Q (F0 m pc ls (.ref x :: .null :: rest)) :=
  lv_acmp_ne (rx := none) (ry := some x) hx hb hdg ht (fun _ => kt) (fun h => by cases h)
theorem r_popQ (hx : p.tables.exec = Jvm.exec) (hb : c.code = cc) {o : Option Nat} (hdg : decode cc pc = .ok (.pop, 1)) (kk : W p l e R s m args below meth c H locs cells slots Q (F0 m (pc + 1) ls rest)) : W p l e R s m args below meth c H locs cells slots Q (F0 m pc ls (va_rf o :: rest)) :=
  lv_pop hx hb hdg (by cases o <;> rfl) kk
end RG
theorem sw_out13 {x : Int32} (h0 : ¬ x = 0) (h1 : ¬ x = 1) (h2 : ¬ x = 2) (h3 : ¬ x = 3) (h4 : ¬ x = 4) (h5 : ¬ x = 5) (h6 : ¬ x = 6) (h7 : ¬ x = 7) (h8 : ¬ x = 8) (h9 : ¬ x = 9) (h10 : ¬ x = 10) (h11 : ¬ x = 11) (h12 : ¬ x = 12) : x.toInt < 0 ∨ 12 < x.toInt := by
  have h := sw_out (x := x) (n := 13) (fun k hk => by
    rcases (show k = 0 ∨ k = 1 ∨ k = 2 ∨ k = 3 ∨ k = 4 ∨ k = 5 ∨ k = 6 ∨ k = 7 ∨ k = 8 ∨ k = 9 ∨ k = 10 ∨ k = 11 ∨ k = 12 by omega) with rfl | rfl | rfl | rfl | rfl | rfl | rfl | rfl | rfl | rfl | rfl | rfl | rfl
    · exact h0
    · exact h1
    · exact h2
    · exact h3
    · exact h4
    · exact h5
    · exact h6
    · exact h7
    · exact h8
    · exact h9
    · exact h10
    · exact h11
    · exact h12)
  rcases h with h | h
  · exact Or.inl h
  · exact Or.inr (by omega)
theorem sw_out4 {x : Int32} (h0 : ¬ x = 0) (h1 : ¬ x = 1) (h2 : ¬ x = 2) (h3 : ¬ x = 3) : x.toInt < 0 ∨ 3 < x.toInt := by
  have h := sw_out (x := x) (n := 4) (fun k hk => by
    rcases (show k = 0 ∨ k = 1 ∨ k = 2 ∨ k = 3 by omega) with rfl | rfl | rfl | rfl
    · exact h0
    · exact h1
    · exact h2
    · exact h3)
  rcases h with h | h
  · exact Or.inl h
  · exact Or.inr (by omega)
theorem sw_out14 {x : Int32} (h0 : ¬ x = 0) (h1 : ¬ x = 1) (h2 : ¬ x = 2) (h3 : ¬ x = 3) (h4 : ¬ x = 4) (h5 : ¬ x = 5) (h6 : ¬ x = 6) (h7 : ¬ x = 7) (h8 : ¬ x = 8) (h9 : ¬ x = 9) (h10 : ¬ x = 10) (h11 : ¬ x = 11) (h12 : ¬ x = 12) (h13 : ¬ x = 13) : x.toInt < 0 ∨ 13 < x.toInt := by
  have h := sw_out (x := x) (n := 14) (fun k hk => by
    rcases (show k = 0 ∨ k = 1 ∨ k = 2 ∨ k = 3 ∨ k = 4 ∨ k = 5 ∨ k = 6 ∨ k = 7 ∨ k = 8 ∨ k = 9 ∨ k = 10 ∨ k = 11 ∨ k = 12 ∨ k = 13 by omega) with rfl | rfl | rfl | rfl | rfl | rfl | rfl | rfl | rfl | rfl | rfl | rfl | rfl | rfl
    · exact h0
    · exact h1
    · exact h2
    · exact h3
    · exact h4
    · exact h5
    · exact h6
    · exact h7
    · exact h8
    · exact h9
    · exact h10
    · exact h11
    · exact h12
    · exact h13)
  rcases h with h | h
  · exact Or.inl h
  · exact Or.inr (by omega)
end
section
/-- "Sandglass" "isIn" "(III)Z" -/
def f_X8_isIn (g : Geo) (μ : Mem) (x : Int32) (lo : Int32) (hi : Int32) : Option (Int32) := if x < lo then (some 0) else (if hi < x then (some 0) else (some 1))
theorem hd_X8_isIn : yX8_isIn.cls = RX8 ∧ yX8_isIn.cls ≠ "java/lang/invoke/MethodHandle" ∧ yX8_isIn.cls ≠ "java/lang/invoke/VarHandle" ∧ (parseMethodDescriptor yX8_isIn.desc).map (fun d => d.parameters.length) = some 3 := by decide +kernel
set_option maxHeartbeats 4000000 in
set_option maxRecDepth 100000 in
theorem c_X8_isIn (l : Launch) {g : Geo} (hg : Good g) (μ : Mem) (x : Int32) (lo : Int32) (hi : Int32) {r : Int32} (hf : f_X8_isIn g μ x lo hi = some r) : Met l yX8_isIn (ws_ yX8_isIn cX8_isIn 3 (some .boolean)) (rm_ 0 0 0 0) (Pz g [.int x, .int lo, .int hi] (Rg g μ)) (va_Qi (fun (v : Int32) (_ : Unit) => v = r) (fun _ _ => True) (fun _ => False)) 0 0 (fun _ => False) := by
  refine Met.ofW (cc := cX8_isIn) (maxL := 3) (ret := (some .boolean)) (by decide) rfl ?_
  intro p e s m args below meth c s₁ B hml hv
  obtain ⟨rfl, hT, hP⟩ := hv
  have hx := B.exec
  have hb := B.bytes
  have hr := B.returns
  have hts : ∀ w ∈ lw_all, w.before _ s = true := fun w h => atoms_spec (ws := (ws_ yX8_isIn cX8_isIn 3 (some .boolean))) B.pre w (List.mem_cons_of_mem _ h)
  have hown : s.vm.findClass RX8 = some m.cls := findClass_of_methodNamed B.named
  have hlocks := B.notSynchronized
  have hS : va_S (fun _ => False) s.heap s.heap [] := va_S.rf
  have hl := lv_entry ([.int x, .int lo, .int hi]) (n := 3) (Nat.le_of_ble_eq_true rfl)
  rw [lg_entry_eq]
  generalize (lg_sl ([.int x, .int lo, .int hi]) ++ List.replicate (3 - (lg_sl ([.int x, .int lo, .int hi])).length) Slot.unset).toArray = ls at hl ⊢
  have hl : lv_has ls 3 [(0, .int x), (1, .int lo), (2, .int hi)] := hl
  unfold f_X8_isIn at hf
  refine lv_iload_n hx hb dX8_isIn_0 rfl (lv_at hl 0 rfl) ?_
  refine lv_iload_n hx hb dX8_isIn_1 rfl (lv_at hl 1 rfl) ?_
  refine lv_icmp_lt (tgt := 14) hx hb dX8_isIn_2 (by decide) (fun c_1 => ?_) (fun c_1 => ?_)
  · have hf := (if_pos c_1).symm.trans hf
    refine lv_iconst (v := 0) hx hb dX8_isIn_14 (by decide) ?_
    exact W.zret (v := 0) (ty := .boolean) hx hb hr (by decide) (fun t9 ht hW => ⟨⟨0, (), rfl, Option.some.inj hf, trivial⟩, hS.F ht⟩) hS.2.2 dX8_isIn_15
  · have hf := (if_neg c_1).symm.trans hf
    refine lv_iload_n hx hb dX8_isIn_5 rfl (lv_at hl 0 rfl) ?_
    refine lv_iload_n hx hb dX8_isIn_6 rfl (lv_at hl 2 rfl) ?_
    refine lv_icmp_gt (tgt := 14) hx hb dX8_isIn_7 (by decide) (fun c_2 => ?_) (fun c_2 => ?_)
    · have hf := (if_pos c_2).symm.trans hf
      refine lv_iconst (v := 0) hx hb dX8_isIn_14 (by decide) ?_
      exact W.zret (v := 0) (ty := .boolean) hx hb hr (by decide) (fun t9 ht hW => ⟨⟨0, (), rfl, Option.some.inj hf, trivial⟩, hS.F ht⟩) hS.2.2 dX8_isIn_15
    · have hf := (if_neg c_2).symm.trans hf
      refine lv_iconst (v := 1) hx hb dX8_isIn_10 (by decide) ?_
      refine lv_goto (tgt := 15) hx hb dX8_isIn_11 (by decide) ?_
      exact W.zret (v := 1) (ty := .boolean) hx hb hr (by decide) (fun t9 ht hW => ⟨⟨1, (), rfl, Option.some.inj hf, trivial⟩, hS.F ht⟩) hS.2.2 dX8_isIn_15
/-- "Sandglass" "at" "([II)I" -/
def f_X8_at (g : Geo) (μ : Mem) (row : Nat) (i : Int32) : Option (Int32) := if i < 0 then (some 0) else (if (nI (alen row)) ≤ i then (some 0) else (grd (¬ (i < 0 ∨ alen row ≤ i.toNatClampNeg)) (some (μ row i.toNatClampNeg))))
theorem hd_X8_at : yX8_at.cls = RX8 ∧ yX8_at.cls ≠ "java/lang/invoke/MethodHandle" ∧ yX8_at.cls ≠ "java/lang/invoke/VarHandle" ∧ (parseMethodDescriptor yX8_at.desc).map (fun d => d.parameters.length) = some 2 := by decide +kernel
set_option maxHeartbeats 4000000 in
set_option maxRecDepth 100000 in
theorem c_X8_at (l : Launch) {g : Geo} (hg : Good g) (μ : Mem) (row : Nat) (i : Int32) (hrow : isA row) {r : Int32} (hf : f_X8_at g μ row i = some r) : Met l yX8_at (ws_ yX8_at cX8_at 2 (some .int)) (rm_ 0 0 0 0) (Pz g [.ref (g.ad row), .int i] (Rg g μ)) (va_Qi (fun (v : Int32) (_ : Unit) => v = r) (fun _ _ => True) (fun _ => False)) 0 0 (fun _ => False) := by
  refine Met.ofW (cc := cX8_at) (maxL := 2) (ret := (some .int)) (by decide) rfl ?_
  intro p e s m args below meth c s₁ B hml hv
  obtain ⟨rfl, hT, hP⟩ := hv
  have hx := B.exec
  have hb := B.bytes
  have hr := B.returns
  have hts : ∀ w ∈ lw_all, w.before _ s = true := fun w h => atoms_spec (ws := (ws_ yX8_at cX8_at 2 (some .int))) B.pre w (List.mem_cons_of_mem _ h)
  have hown : s.vm.findClass RX8 = some m.cls := findClass_of_methodNamed B.named
  have hlocks := B.notSynchronized
  have hS : va_S (fun _ => False) s.heap s.heap [] := va_S.rf
  have hl := lv_entry ([.ref (g.ad row), .int i]) (n := 2) (Nat.le_of_ble_eq_true rfl)
  rw [lg_entry_eq]
  generalize (lg_sl ([.ref (g.ad row), .int i]) ++ List.replicate (2 - (lg_sl ([.ref (g.ad row), .int i])).length) Slot.unset).toArray = ls at hl ⊢
  have hl : lv_has ls 2 [(0, .ref (g.ad row)), (1, .int i)] := hl
  unfold f_X8_at at hf
  refine lv_iload_n hx hb dX8_at_0 rfl (lv_at hl 1 rfl) ?_
  refine lv_if_lt (tgt := 16) hx hb dX8_at_1 (by decide) (fun c_1 => ?_) (fun c_1 => ?_)
  · have hf := (if_pos c_1).symm.trans hf
    refine lv_iconst (v := 0) hx hb dX8_at_16 (by decide) ?_
    exact W.iret (v := 0) hx hb hr (fun t9 ht hW => ⟨⟨0, (), rfl, Option.some.inj hf, trivial⟩, hS.F ht⟩) hS.2.2 dX8_at_17
  · have hf := (if_neg c_1).symm.trans hf
    refine lv_iload_n hx hb dX8_at_4 rfl (lv_at hl 1 rfl) ?_
    refine lv_aload_n hx hb dX8_at_5 rfl (lv_at hl 0 rfl) ?_
    refine r_alenA hx hb hT hP hrow dX8_at_6 ?_
    refine lv_icmp_ge (tgt := 16) hx hb dX8_at_7 (by decide) (fun c_2 => ?_) (fun c_2 => ?_)
    · have hf := (if_pos c_2).symm.trans hf
      refine lv_iconst (v := 0) hx hb dX8_at_16 (by decide) ?_
      exact W.iret (v := 0) hx hb hr (fun t9 ht hW => ⟨⟨0, (), rfl, Option.some.inj hf, trivial⟩, hS.F ht⟩) hS.2.2 dX8_at_17
    · have hf := (if_neg c_2).symm.trans hf
      refine lv_aload_n hx hb dX8_at_10 rfl (lv_at hl 0 rfl) ?_
      refine lv_iload_n hx hb dX8_at_11 rfl (lv_at hl 1 rfl) ?_
      obtain ⟨hi_3, hf⟩ := grd_some hf
      refine r_iald hx hb hT hP hrow hi_3 dX8_at_12 ?_
      refine lv_goto (tgt := 17) hx hb dX8_at_13 (by decide) ?_
      exact W.iret (v := μ row i.toNatClampNeg) hx hb hr (fun t9 ht hW => ⟨⟨μ row i.toNatClampNeg, (), rfl, Option.some.inj hf, trivial⟩, hS.F ht⟩) hS.2.2 dX8_at_17
/-- "Sandglass" "set" "([III)V" -/
def f_X8_set (g : Geo) (μ : Mem) (row : Nat) (i : Int32) (x : Int32) : Option (Mem) := if i < 0 then (some μ) else (if (nI (alen row)) ≤ i then (some μ) else (grd (¬ (i < 0 ∨ alen row ≤ i.toNatClampNeg)) (bnd (put μ row i.toNatClampNeg x) fun μ_4 => some μ_4)))
theorem hd_X8_set : yX8_set.cls = RX8 ∧ yX8_set.cls ≠ "java/lang/invoke/MethodHandle" ∧ yX8_set.cls ≠ "java/lang/invoke/VarHandle" ∧ (parseMethodDescriptor yX8_set.desc).map (fun d => d.parameters.length) = some 3 := by decide +kernel
set_option maxHeartbeats 4000000 in
set_option maxRecDepth 100000 in
theorem c_X8_set (l : Launch) {g : Geo} (hg : Good g) (μ : Mem) (sz : Nat) (row : Nat) (i : Int32) (x : Int32) (hrow : isA row) {r : Mem} (hf : f_X8_set g μ row i x = some r) : Met l yX8_set (ws_ yX8_set cX8_set 3 (Option.none : Option Jvm.ClassFile.FieldType)) (rm_ 0 0 0 0) (Pz g [.ref (g.ad row), .int i, .int x] (fun H9 => H9.size = sz ∧ Rg g μ H9)) (va_Qv (fun _ : Unit => True) (fun _ t => Rg g r t.heap) (Ag g sz)) 0 0 (Ag g sz) := by
  refine Met.ofW (cc := cX8_set) (maxL := 3) (ret := (Option.none : Option Jvm.ClassFile.FieldType)) (by decide) rfl ?_
  intro p e s m args below meth c s₁ B hml hv
  obtain ⟨rfl, hT, hsz, hP⟩ := hv
  have hx := B.exec
  have hb := B.bytes
  have hr := B.returns
  have hts : ∀ w ∈ lw_all, w.before _ s = true := fun w h => atoms_spec (ws := (ws_ yX8_set cX8_set 3 (Option.none : Option Jvm.ClassFile.FieldType))) B.pre w (List.mem_cons_of_mem _ h)
  have hown : s.vm.findClass RX8 = some m.cls := findClass_of_methodNamed B.named
  have hlocks := B.notSynchronized
  subst hsz
  have hD := fun ν => Ag.apart hg s.heap.size ν
  have hS : va_S (Ag g s.heap.size) s.heap s.heap [] := va_S.rf
  have hl := lv_entry ([.ref (g.ad row), .int i, .int x]) (n := 3) (Nat.le_of_ble_eq_true rfl)
  rw [lg_entry_eq]
  generalize (lg_sl ([.ref (g.ad row), .int i, .int x]) ++ List.replicate (3 - (lg_sl ([.ref (g.ad row), .int i, .int x])).length) Slot.unset).toArray = ls at hl ⊢
  have hl : lv_has ls 3 [(0, .ref (g.ad row)), (1, .int i), (2, .int x)] := hl
  unfold f_X8_set at hf
  refine lv_iload_n hx hb dX8_set_0 rfl (lv_at hl 1 rfl) ?_
  refine lv_if_lt (tgt := 14) hx hb dX8_set_1 (by decide) (fun c_1 => ?_) (fun c_1 => ?_)
  · have hf := (if_pos c_1).symm.trans hf
    exact W.vret hx hb hr (fun t9 ht hW => ⟨⟨(), rfl, trivial, by show Rg g r t9.heap; rw [ht, ← Option.some.inj hf]; exact hP⟩, hS.F ht⟩) hS.2.2 dX8_set_14
  · have hf := (if_neg c_1).symm.trans hf
    refine lv_iload_n hx hb dX8_set_4 rfl (lv_at hl 1 rfl) ?_
    refine lv_aload_n hx hb dX8_set_5 rfl (lv_at hl 0 rfl) ?_
    refine r_alenA hx hb hT hP hrow dX8_set_6 ?_
    refine lv_icmp_ge (tgt := 14) hx hb dX8_set_7 (by decide) (fun c_2 => ?_) (fun c_2 => ?_)
    · have hf := (if_pos c_2).symm.trans hf
      exact W.vret hx hb hr (fun t9 ht hW => ⟨⟨(), rfl, trivial, by show Rg g r t9.heap; rw [ht, ← Option.some.inj hf]; exact hP⟩, hS.F ht⟩) hS.2.2 dX8_set_14
    · have hf := (if_neg c_2).symm.trans hf
      refine lv_aload_n hx hb dX8_set_10 rfl (lv_at hl 0 rfl) ?_
      refine lv_iload_n hx hb dX8_set_11 rfl (lv_at hl 1 rfl) ?_
      refine lv_iload_n hx hb dX8_set_12 rfl (lv_at hl 2 rfl) ?_
      obtain ⟨hi_3, hf⟩ := grd_some hf
      refine r_iast hx hb hT hP hD hS hrow hi_3 dX8_set_13 (fun H locs hP hS => ?_)
      obtain ⟨μ_4, eμ_4⟩ : ∃ z, put μ row i.toNatClampNeg x = z := ⟨_, rfl⟩
      rw [eμ_4] at hP
      have hf := bnd_eq hf _ eμ_4
      exact W.vret hx hb hr (fun t9 ht hW => ⟨⟨(), rfl, trivial, by show Rg g r t9.heap; rw [ht, ← Option.some.inj hf]; exact hP⟩, hS.F ht⟩) hS.2.2 dX8_set_14
/-- "Sandglass$Proc" "isOver" "()Z" -/
def f_X2_isOver (g : Geo) (μ : Mem) (t : Nat) : Option (Int32) := if (μ t 6) = 5 then (some 1) else (if (μ t 6) = 6 then (some 1) else (if (μ t 6) = 7 then (some 1) else (some 0)))
theorem hd_X2_isOver : yX2_isOver.cls = RX2 ∧ yX2_isOver.cls ≠ "java/lang/invoke/MethodHandle" ∧ yX2_isOver.cls ≠ "java/lang/invoke/VarHandle" ∧ (parseMethodDescriptor yX2_isOver.desc).map (fun d => d.parameters.length) = some 0 := by decide +kernel
set_option maxHeartbeats 4000000 in
set_option maxRecDepth 100000 in
theorem c_X2_isOver (l : Launch) {g : Geo} (hg : Good g) (μ : Mem) (t : Nat) (ht : isP t) {r : Int32} (hf : f_X2_isOver g μ t = some r) : Met l yX2_isOver (ws_ yX2_isOver cX2_isOver 1 (some .boolean)) (rm_ 0 0 0 0) (Pz g [.ref (g.ad t)] (Rg g μ)) (va_Qi (fun (v : Int32) (_ : Unit) => v = r) (fun _ _ => True) (fun _ => False)) 0 0 (fun _ => False) := by
  refine Met.ofW (cc := cX2_isOver) (maxL := 1) (ret := (some .boolean)) (by decide) rfl ?_
  intro p e s m args below meth c s₁ B hml hv
  obtain ⟨rfl, hT, hP⟩ := hv
  have hx := B.exec
  have hb := B.bytes
  have hr := B.returns
  have hts : ∀ w ∈ lw_all, w.before _ s = true := fun w h => atoms_spec (ws := (ws_ yX2_isOver cX2_isOver 1 (some .boolean))) B.pre w (List.mem_cons_of_mem _ h)
  have hown : s.vm.findClass RX2 = some m.cls := findClass_of_methodNamed B.named
  have hlocks := B.notSynchronized
  have hS : va_S (fun _ => False) s.heap s.heap [] := va_S.rf
  have hl := lv_entry ([.ref (g.ad t)]) (n := 1) (Nat.le_of_ble_eq_true rfl)
  rw [lg_entry_eq]
  generalize (lg_sl ([.ref (g.ad t)]) ++ List.replicate (1 - (lg_sl ([.ref (g.ad t)])).length) Slot.unset).toArray = ls at hl ⊢
  have hl : lv_has ls 1 [(0, .ref (g.ad t))] := hl
  unfold f_X2_isOver at hf
  refine lv_aload_n hx hb dX2_isOver_0 rfl (lv_at hl 0 rfl) ?_
  refine r_get hx hb hts i_X2 hown hT hP (inP ht) (fs := (fsP g t)) (obP ht) rfl 6 (by decide) q127 (fun _ h9 => h9) rfl dX2_isOver_1 ?_
  refine lv_iconst (v := 5) hx hb dX2_isOver_4 (by decide) ?_
  refine lv_icmp_eq (tgt := 26) hx hb dX2_isOver_5 (by decide) (fun c_1 => ?_) (fun c_1 => ?_)
  · have hf := (if_pos c_1).symm.trans hf
    refine lv_iconst (v := 1) hx hb dX2_isOver_26 (by decide) ?_
    refine lv_goto (tgt := 31) hx hb dX2_isOver_27 (by decide) ?_
    exact W.zret (v := 1) (ty := .boolean) hx hb hr (by decide) (fun t9 ht hW => ⟨⟨1, (), rfl, Option.some.inj hf, trivial⟩, hS.F ht⟩) hS.2.2 dX2_isOver_31
  · have hf := (if_neg c_1).symm.trans hf
    refine lv_aload_n hx hb dX2_isOver_8 rfl (lv_at hl 0 rfl) ?_
    refine r_get hx hb hts i_X2 hown hT hP (inP ht) (fs := (fsP g t)) (obP ht) rfl 6 (by decide) q127 (fun _ h9 => h9) rfl dX2_isOver_9 ?_
    refine lv_bipush (v := 6) hx hb dX2_isOver_12 (by decide) ?_
    refine lv_icmp_eq (tgt := 26) hx hb dX2_isOver_14 (by decide) (fun c_2 => ?_) (fun c_2 => ?_)
    · have hf := (if_pos c_2).symm.trans hf
      refine lv_iconst (v := 1) hx hb dX2_isOver_26 (by decide) ?_
      refine lv_goto (tgt := 31) hx hb dX2_isOver_27 (by decide) ?_
      exact W.zret (v := 1) (ty := .boolean) hx hb hr (by decide) (fun t9 ht hW => ⟨⟨1, (), rfl, Option.some.inj hf, trivial⟩, hS.F ht⟩) hS.2.2 dX2_isOver_31
    · have hf := (if_neg c_2).symm.trans hf
      refine lv_aload_n hx hb dX2_isOver_17 rfl (lv_at hl 0 rfl) ?_
      refine r_get hx hb hts i_X2 hown hT hP (inP ht) (fs := (fsP g t)) (obP ht) rfl 6 (by decide) q127 (fun _ h9 => h9) rfl dX2_isOver_18 ?_
      refine lv_bipush (v := 7) hx hb dX2_isOver_21 (by decide) ?_
      refine lv_icmp_ne (tgt := 30) hx hb dX2_isOver_23 (by decide) (fun c_3 => ?_) (fun c_3 => ?_)
      · have hf := (if_neg c_3).symm.trans hf
        refine lv_iconst (v := 0) hx hb dX2_isOver_30 (by decide) ?_
        exact W.zret (v := 0) (ty := .boolean) hx hb hr (by decide) (fun t9 ht hW => ⟨⟨0, (), rfl, Option.some.inj hf, trivial⟩, hS.F ht⟩) hS.2.2 dX2_isOver_31
      · have hf := (if_pos c_3).symm.trans hf
        refine lv_iconst (v := 1) hx hb dX2_isOver_26 (by decide) ?_
        refine lv_goto (tgt := 31) hx hb dX2_isOver_27 (by decide) ?_
        exact W.zret (v := 1) (ty := .boolean) hx hb hr (by decide) (fun t9 ht hW => ⟨⟨1, (), rfl, Option.some.inj hf, trivial⟩, hS.F ht⟩) hS.2.2 dX2_isOver_31
/-- "Sandglass$Proc" "goesBefore" "(LSandglass$Proc;)Z" -/
def f_X2_goesBefore (g : Geo) (μ : Mem) (t : Nat) (o : Nat) : Option (Int32) := if (μ t 7) < (μ o 7) then (some 1) else (if (μ t 7) = (μ o 7) then (if (μ o 8) ≤ (μ t 8) then (some 0) else (some 1)) else (some 0))
theorem hd_X2_goesBefore : yX2_goesBefore.cls = RX2 ∧ yX2_goesBefore.cls ≠ "java/lang/invoke/MethodHandle" ∧ yX2_goesBefore.cls ≠ "java/lang/invoke/VarHandle" ∧ (parseMethodDescriptor yX2_goesBefore.desc).map (fun d => d.parameters.length) = some 1 := by decide +kernel
set_option maxHeartbeats 4000000 in
set_option maxRecDepth 100000 in
theorem c_X2_goesBefore (l : Launch) {g : Geo} (hg : Good g) (μ : Mem) (t : Nat) (o : Nat) (ht : isP t) (ho : isP o) {r : Int32} (hf : f_X2_goesBefore g μ t o = some r) : Met l yX2_goesBefore (ws_ yX2_goesBefore cX2_goesBefore 2 (some .boolean)) (rm_ 0 0 0 0) (Pz g [.ref (g.ad t), .ref (g.ad o)] (Rg g μ)) (va_Qi (fun (v : Int32) (_ : Unit) => v = r) (fun _ _ => True) (fun _ => False)) 0 0 (fun _ => False) := by
  refine Met.ofW (cc := cX2_goesBefore) (maxL := 2) (ret := (some .boolean)) (by decide) rfl ?_
  intro p e s m args below meth c s₁ B hml hv
  obtain ⟨rfl, hT, hP⟩ := hv
  have hx := B.exec
  have hb := B.bytes
  have hr := B.returns
  have hts : ∀ w ∈ lw_all, w.before _ s = true := fun w h => atoms_spec (ws := (ws_ yX2_goesBefore cX2_goesBefore 2 (some .boolean))) B.pre w (List.mem_cons_of_mem _ h)
  have hown : s.vm.findClass RX2 = some m.cls := findClass_of_methodNamed B.named
  have hlocks := B.notSynchronized
  have hS : va_S (fun _ => False) s.heap s.heap [] := va_S.rf
  have hl := lv_entry ([.ref (g.ad t), .ref (g.ad o)]) (n := 2) (Nat.le_of_ble_eq_true rfl)
  rw [lg_entry_eq]
  generalize (lg_sl ([.ref (g.ad t), .ref (g.ad o)]) ++ List.replicate (2 - (lg_sl ([.ref (g.ad t), .ref (g.ad o)])).length) Slot.unset).toArray = ls at hl ⊢
  have hl : lv_has ls 2 [(0, .ref (g.ad t)), (1, .ref (g.ad o))] := hl
  unfold f_X2_goesBefore at hf
  refine lv_aload_n hx hb dX2_goesBefore_0 rfl (lv_at hl 0 rfl) ?_
  refine r_get hx hb hts i_X2 hown hT hP (inP ht) (fs := (fsP g t)) (obP ht) rfl 7 (by decide) q130 (fun _ h9 => h9) rfl dX2_goesBefore_1 ?_
  refine lv_aload_n hx hb dX2_goesBefore_4 rfl (lv_at hl 1 rfl) ?_
  refine r_get hx hb hts i_X2 hown hT hP (inP ho) (fs := (fsP g o)) (obP ho) rfl 7 (by decide) q130 (fun _ h9 => h9) rfl dX2_goesBefore_5 ?_
  refine lv_icmp_lt (tgt := 33) hx hb dX2_goesBefore_8 (by decide) (fun c_1 => ?_) (fun c_1 => ?_)
  · have hf := (if_pos c_1).symm.trans hf
    refine lv_iconst (v := 1) hx hb dX2_goesBefore_33 (by decide) ?_
    refine lv_goto (tgt := 38) hx hb dX2_goesBefore_34 (by decide) ?_
    exact W.zret (v := 1) (ty := .boolean) hx hb hr (by decide) (fun t9 ht hW => ⟨⟨1, (), rfl, Option.some.inj hf, trivial⟩, hS.F ht⟩) hS.2.2 dX2_goesBefore_38
  · have hf := (if_neg c_1).symm.trans hf
    refine lv_aload_n hx hb dX2_goesBefore_11 rfl (lv_at hl 0 rfl) ?_
    refine r_get hx hb hts i_X2 hown hT hP (inP ht) (fs := (fsP g t)) (obP ht) rfl 7 (by decide) q130 (fun _ h9 => h9) rfl dX2_goesBefore_12 ?_
    refine lv_aload_n hx hb dX2_goesBefore_15 rfl (lv_at hl 1 rfl) ?_
    refine r_get hx hb hts i_X2 hown hT hP (inP ho) (fs := (fsP g o)) (obP ho) rfl 7 (by decide) q130 (fun _ h9 => h9) rfl dX2_goesBefore_16 ?_
    refine lv_icmp_ne (tgt := 37) hx hb dX2_goesBefore_19 (by decide) (fun c_2 => ?_) (fun c_2 => ?_)
    · have hf := (if_neg c_2).symm.trans hf
      refine lv_iconst (v := 0) hx hb dX2_goesBefore_37 (by decide) ?_
      exact W.zret (v := 0) (ty := .boolean) hx hb hr (by decide) (fun t9 ht hW => ⟨⟨0, (), rfl, Option.some.inj hf, trivial⟩, hS.F ht⟩) hS.2.2 dX2_goesBefore_38
    · have hf := (if_pos c_2).symm.trans hf
      refine lv_aload_n hx hb dX2_goesBefore_22 rfl (lv_at hl 0 rfl) ?_
      refine r_get hx hb hts i_X2 hown hT hP (inP ht) (fs := (fsP g t)) (obP ht) rfl 8 (by decide) q133 (fun _ h9 => h9) rfl dX2_goesBefore_23 ?_
      refine lv_aload_n hx hb dX2_goesBefore_26 rfl (lv_at hl 1 rfl) ?_
      refine r_get hx hb hts i_X2 hown hT hP (inP ho) (fs := (fsP g o)) (obP ho) rfl 8 (by decide) q133 (fun _ h9 => h9) rfl dX2_goesBefore_27 ?_
      refine lv_icmp_ge (tgt := 37) hx hb dX2_goesBefore_30 (by decide) (fun c_3 => ?_) (fun c_3 => ?_)
      · have hf := (if_pos c_3).symm.trans hf
        refine lv_iconst (v := 0) hx hb dX2_goesBefore_37 (by decide) ?_
        exact W.zret (v := 0) (ty := .boolean) hx hb hr (by decide) (fun t9 ht hW => ⟨⟨0, (), rfl, Option.some.inj hf, trivial⟩, hS.F ht⟩) hS.2.2 dX2_goesBefore_38
      · have hf := (if_neg c_3).symm.trans hf
        refine lv_iconst (v := 1) hx hb dX2_goesBefore_33 (by decide) ?_
        refine lv_goto (tgt := 38) hx hb dX2_goesBefore_34 (by decide) ?_
        exact W.zret (v := 1) (ty := .boolean) hx hb hr (by decide) (fun t9 ht hW => ⟨⟨1, (), rfl, Option.some.inj hf, trivial⟩, hS.F ht⟩) hS.2.2 dX2_goesBefore_38
/-- "Sandglass$Proc" "standsBefore" "(LSandglass$Proc;)Z" -/
def f_X2_standsBefore (g : Geo) (μ : Mem) (t : Nat) (o : Nat) : Option (Int32) := if (μ t 10) < (μ o 10) then (some 1) else (if (μ t 10) = (μ o 10) then (if (μ o 11) ≤ (μ t 11) then (some 0) else (some 1)) else (some 0))
theorem hd_X2_standsBefore : yX2_standsBefore.cls = RX2 ∧ yX2_standsBefore.cls ≠ "java/lang/invoke/MethodHandle" ∧ yX2_standsBefore.cls ≠ "java/lang/invoke/VarHandle" ∧ (parseMethodDescriptor yX2_standsBefore.desc).map (fun d => d.parameters.length) = some 1 := by decide +kernel
set_option maxHeartbeats 4000000 in
set_option maxRecDepth 100000 in
theorem c_X2_standsBefore (l : Launch) {g : Geo} (hg : Good g) (μ : Mem) (t : Nat) (o : Nat) (ht : isP t) (ho : isP o) {r : Int32} (hf : f_X2_standsBefore g μ t o = some r) : Met l yX2_standsBefore (ws_ yX2_standsBefore cX2_standsBefore 2 (some .boolean)) (rm_ 0 0 0 0) (Pz g [.ref (g.ad t), .ref (g.ad o)] (Rg g μ)) (va_Qi (fun (v : Int32) (_ : Unit) => v = r) (fun _ _ => True) (fun _ => False)) 0 0 (fun _ => False) := by
  refine Met.ofW (cc := cX2_standsBefore) (maxL := 2) (ret := (some .boolean)) (by decide) rfl ?_
  intro p e s m args below meth c s₁ B hml hv
  obtain ⟨rfl, hT, hP⟩ := hv
  have hx := B.exec
  have hb := B.bytes
  have hr := B.returns
  have hts : ∀ w ∈ lw_all, w.before _ s = true := fun w h => atoms_spec (ws := (ws_ yX2_standsBefore cX2_standsBefore 2 (some .boolean))) B.pre w (List.mem_cons_of_mem _ h)
  have hown : s.vm.findClass RX2 = some m.cls := findClass_of_methodNamed B.named
  have hlocks := B.notSynchronized
  have hS : va_S (fun _ => False) s.heap s.heap [] := va_S.rf
  have hl := lv_entry ([.ref (g.ad t), .ref (g.ad o)]) (n := 2) (Nat.le_of_ble_eq_true rfl)
  rw [lg_entry_eq]
  generalize (lg_sl ([.ref (g.ad t), .ref (g.ad o)]) ++ List.replicate (2 - (lg_sl ([.ref (g.ad t), .ref (g.ad o)])).length) Slot.unset).toArray = ls at hl ⊢
  have hl : lv_has ls 2 [(0, .ref (g.ad t)), (1, .ref (g.ad o))] := hl
  unfold f_X2_standsBefore at hf
  refine lv_aload_n hx hb dX2_standsBefore_0 rfl (lv_at hl 0 rfl) ?_
  refine r_get hx hb hts i_X2 hown hT hP (inP ht) (fs := (fsP g t)) (obP ht) rfl 10 (by decide) q137 (fun _ h9 => h9) rfl dX2_standsBefore_1 ?_
  refine lv_aload_n hx hb dX2_standsBefore_4 rfl (lv_at hl 1 rfl) ?_
  refine r_get hx hb hts i_X2 hown hT hP (inP ho) (fs := (fsP g o)) (obP ho) rfl 10 (by decide) q137 (fun _ h9 => h9) rfl dX2_standsBefore_5 ?_
  refine lv_icmp_lt (tgt := 33) hx hb dX2_standsBefore_8 (by decide) (fun c_1 => ?_) (fun c_1 => ?_)
  · have hf := (if_pos c_1).symm.trans hf
    refine lv_iconst (v := 1) hx hb dX2_standsBefore_33 (by decide) ?_
    refine lv_goto (tgt := 38) hx hb dX2_standsBefore_34 (by decide) ?_
    exact W.zret (v := 1) (ty := .boolean) hx hb hr (by decide) (fun t9 ht hW => ⟨⟨1, (), rfl, Option.some.inj hf, trivial⟩, hS.F ht⟩) hS.2.2 dX2_standsBefore_38
  · have hf := (if_neg c_1).symm.trans hf
    refine lv_aload_n hx hb dX2_standsBefore_11 rfl (lv_at hl 0 rfl) ?_
    refine r_get hx hb hts i_X2 hown hT hP (inP ht) (fs := (fsP g t)) (obP ht) rfl 10 (by decide) q137 (fun _ h9 => h9) rfl dX2_standsBefore_12 ?_
    refine lv_aload_n hx hb dX2_standsBefore_15 rfl (lv_at hl 1 rfl) ?_
    refine r_get hx hb hts i_X2 hown hT hP (inP ho) (fs := (fsP g o)) (obP ho) rfl 10 (by decide) q137 (fun _ h9 => h9) rfl dX2_standsBefore_16 ?_
    refine lv_icmp_ne (tgt := 37) hx hb dX2_standsBefore_19 (by decide) (fun c_2 => ?_) (fun c_2 => ?_)
    · have hf := (if_neg c_2).symm.trans hf
      refine lv_iconst (v := 0) hx hb dX2_standsBefore_37 (by decide) ?_
      exact W.zret (v := 0) (ty := .boolean) hx hb hr (by decide) (fun t9 ht hW => ⟨⟨0, (), rfl, Option.some.inj hf, trivial⟩, hS.F ht⟩) hS.2.2 dX2_standsBefore_38
    · have hf := (if_pos c_2).symm.trans hf
      refine lv_aload_n hx hb dX2_standsBefore_22 rfl (lv_at hl 0 rfl) ?_
      refine r_get hx hb hts i_X2 hown hT hP (inP ht) (fs := (fsP g t)) (obP ht) rfl 11 (by decide) q139 (fun _ h9 => h9) rfl dX2_standsBefore_23 ?_
      refine lv_aload_n hx hb dX2_standsBefore_26 rfl (lv_at hl 1 rfl) ?_
      refine r_get hx hb hts i_X2 hown hT hP (inP ho) (fs := (fsP g o)) (obP ho) rfl 11 (by decide) q139 (fun _ h9 => h9) rfl dX2_standsBefore_27 ?_
      refine lv_icmp_ge (tgt := 37) hx hb dX2_standsBefore_30 (by decide) (fun c_3 => ?_) (fun c_3 => ?_)
      · have hf := (if_pos c_3).symm.trans hf
        refine lv_iconst (v := 0) hx hb dX2_standsBefore_37 (by decide) ?_
        exact W.zret (v := 0) (ty := .boolean) hx hb hr (by decide) (fun t9 ht hW => ⟨⟨0, (), rfl, Option.some.inj hf, trivial⟩, hS.F ht⟩) hS.2.2 dX2_standsBefore_38
      · have hf := (if_neg c_3).symm.trans hf
        refine lv_iconst (v := 1) hx hb dX2_standsBefore_33 (by decide) ?_
        refine lv_goto (tgt := 38) hx hb dX2_standsBefore_34 (by decide) ?_
        exact W.zret (v := 1) (ty := .boolean) hx hb hr (by decide) (fun t9 ht hW => ⟨⟨1, (), rfl, Option.some.inj hf, trivial⟩, hS.F ht⟩) hS.2.2 dX2_standsBefore_38
/-- "Sandglass$World" "schedule" "(LSandglass$Proc;II)V" -/
def f_X7_schedule (g : Geo) (μ : Mem) (q : Nat) (st : Int32) (ti : Int32) : Option (Mem) := bnd (put μ 0 9 ((μ 0 9) + 1)) fun μ_1 => bnd (put μ_1 q 6 st) fun μ_2 => bnd (put μ_2 q 7 ((μ_2 0 6) + ti)) fun μ_3 => bnd (put μ_3 q 8 (μ_3 0 9)) fun μ_4 => some μ_4
theorem hd_X7_schedule : yX7_schedule.cls = RX7 ∧ yX7_schedule.cls ≠ "java/lang/invoke/MethodHandle" ∧ yX7_schedule.cls ≠ "java/lang/invoke/VarHandle" ∧ (parseMethodDescriptor yX7_schedule.desc).map (fun d => d.parameters.length) = some 3 := by decide +kernel
set_option maxHeartbeats 4000000 in
set_option maxRecDepth 100000 in
theorem c_X7_schedule (l : Launch) {g : Geo} (hg : Good g) (μ : Mem) (sz : Nat) (q : Nat) (st : Int32) (ti : Int32) (hq : isP q) {r : Mem} (hf : f_X7_schedule g μ q st ti = some r) : Met l yX7_schedule (ws_ yX7_schedule cX7_schedule 4 (Option.none : Option Jvm.ClassFile.FieldType)) (rm_ 0 0 0 0) (Pz g [.ref (g.ad 0), .ref (g.ad q), .int st, .int ti] (fun H9 => H9.size = sz ∧ Rg g μ H9)) (va_Qv (fun _ : Unit => True) (fun _ t => Rg g r t.heap) (Ag g sz)) 0 0 (Ag g sz) := by
  refine Met.ofW (cc := cX7_schedule) (maxL := 4) (ret := (Option.none : Option Jvm.ClassFile.FieldType)) (by decide) rfl ?_
  intro p e s m args below meth c s₁ B hml hv
  obtain ⟨rfl, hT, hsz, hP⟩ := hv
  have hx := B.exec
  have hb := B.bytes
  have hr := B.returns
  have hts : ∀ w ∈ lw_all, w.before _ s = true := fun w h => atoms_spec (ws := (ws_ yX7_schedule cX7_schedule 4 (Option.none : Option Jvm.ClassFile.FieldType))) B.pre w (List.mem_cons_of_mem _ h)
  have hown : s.vm.findClass RX7 = some m.cls := findClass_of_methodNamed B.named
  have hlocks := B.notSynchronized
  subst hsz
  have hD := fun ν => Ag.apart hg s.heap.size ν
  have hS : va_S (Ag g s.heap.size) s.heap s.heap [] := va_S.rf
  have hl := lv_entry ([.ref (g.ad 0), .ref (g.ad q), .int st, .int ti]) (n := 4) (Nat.le_of_ble_eq_true rfl)
  rw [lg_entry_eq]
  generalize (lg_sl ([.ref (g.ad 0), .ref (g.ad q), .int st, .int ti]) ++ List.replicate (4 - (lg_sl ([.ref (g.ad 0), .ref (g.ad q), .int st, .int ti])).length) Slot.unset).toArray = ls at hl ⊢
  have hl : lv_has ls 4 [(0, .ref (g.ad 0)), (1, .ref (g.ad q)), (2, .int st), (3, .int ti)] := hl
  unfold f_X7_schedule at hf
  refine lv_aload_n hx hb dX7_schedule_0 rfl (lv_at hl 0 rfl) ?_
  refine lv_dup hx hb dX7_schedule_1 rfl ?_
  refine r_get hx hb hts i_X7 hown hT hP inW (fs := (fsW g)) (obW g) rfl 9 (by decide) q203 (fun _ h9 => h9) rfl dX7_schedule_2 ?_
  refine lv_iconst (v := 1) hx hb dX7_schedule_5 (by decide) ?_
  refine lv_iadd hx hb dX7_schedule_6 ?_
  refine r_put hx hb hts i_X7 tyX7 tyX7_ok nmX7 hown hT hP hD hS inW (fs := (fsW g)) (obW g) rfl 9 (by decide) q203 (fun _ h9 => h9) rfl (ty := .int) (x := (μ 0 9) + 1) rfl rfl rfl (fun _ => rfl) (Nat.le_of_ble_eq_true rfl) dX7_schedule_7 (fun H locs hP hS => ?_)
  obtain ⟨μ_1, eμ_1⟩ : ∃ z, put μ 0 9 ((μ 0 9) + 1) = z := ⟨_, rfl⟩
  rw [eμ_1] at hP
  have hf := bnd_eq hf _ eμ_1
  refine lv_aload_n hx hb dX7_schedule_10 rfl (lv_at hl 1 rfl) ?_
  refine lv_iload_n hx hb dX7_schedule_11 rfl (lv_at hl 2 rfl) ?_
  refine r_put hx hb hts i_X2 tyX2 tyX2_ok nmX2 hown hT hP hD hS (inP hq) (fs := (fsP g q)) (obP hq) rfl 6 (by decide) q128 (fun _ h9 => h9) rfl (ty := .int) (x := st) rfl rfl rfl (fun _ => rfl) (Nat.le_of_ble_eq_true rfl) dX7_schedule_12 (fun H locs hP hS => ?_)
  obtain ⟨μ_2, eμ_2⟩ : ∃ z, put μ_1 q 6 st = z := ⟨_, rfl⟩
  rw [eμ_2] at hP
  have hf := bnd_eq hf _ eμ_2
  refine lv_aload_n hx hb dX7_schedule_15 rfl (lv_at hl 1 rfl) ?_
  refine lv_aload_n hx hb dX7_schedule_16 rfl (lv_at hl 0 rfl) ?_
  refine r_get hx hb hts i_X7 hown hT hP inW (fs := (fsW g)) (obW g) rfl 6 (by decide) q197 (fun _ h9 => h9) rfl dX7_schedule_17 ?_
  refine lv_iload_n hx hb dX7_schedule_20 rfl (lv_at hl 3 rfl) ?_
  refine lv_iadd hx hb dX7_schedule_21 ?_
  refine r_put hx hb hts i_X2 tyX2 tyX2_ok nmX2 hown hT hP hD hS (inP hq) (fs := (fsP g q)) (obP hq) rfl 7 (by decide) q131 (fun _ h9 => h9) rfl (ty := .int) (x := (μ_2 0 6) + ti) rfl rfl rfl (fun _ => rfl) (Nat.le_of_ble_eq_true rfl) dX7_schedule_22 (fun H locs hP hS => ?_)
  obtain ⟨μ_3, eμ_3⟩ : ∃ z, put μ_2 q 7 ((μ_2 0 6) + ti) = z := ⟨_, rfl⟩
  rw [eμ_3] at hP
  have hf := bnd_eq hf _ eμ_3
  refine lv_aload_n hx hb dX7_schedule_25 rfl (lv_at hl 1 rfl) ?_
  refine lv_aload_n hx hb dX7_schedule_26 rfl (lv_at hl 0 rfl) ?_
  refine r_get hx hb hts i_X7 hown hT hP inW (fs := (fsW g)) (obW g) rfl 9 (by decide) q203 (fun _ h9 => h9) rfl dX7_schedule_27 ?_
  refine r_put hx hb hts i_X2 tyX2 tyX2_ok nmX2 hown hT hP hD hS (inP hq) (fs := (fsP g q)) (obP hq) rfl 8 (by decide) q134 (fun _ h9 => h9) rfl (ty := .int) (x := μ_3 0 9) rfl rfl rfl (fun _ => rfl) (Nat.le_of_ble_eq_true rfl) dX7_schedule_30 (fun H locs hP hS => ?_)
  obtain ⟨μ_4, eμ_4⟩ : ∃ z, put μ_3 q 8 (μ_3 0 9) = z := ⟨_, rfl⟩
  rw [eμ_4] at hP
  have hf := bnd_eq hf _ eμ_4
  exact W.vret hx hb hr (fun t9 ht hW => ⟨⟨(), rfl, trivial, by show Rg g r t9.heap; rw [ht, ← Option.some.inj hf]; exact hP⟩, hS.F ht⟩) hS.2.2 dX7_schedule_33
/-- "Sandglass$World" "enter" "(LSandglass$Proc;II)V" -/
def f_X7_enter (g : Geo) (μ : Mem) (q : Nat) (row : Int32) (st : Int32) : Option (Mem) := bnd (put μ 0 9 ((μ 0 9) + 1)) fun μ_1 => bnd (put μ_1 q 9 row) fun μ_2 => bnd (put μ_2 q 10 0) fun μ_3 => bnd (put μ_3 q 11 (μ_3 0 9)) fun μ_4 => bnd (put μ_4 q 6 st) fun μ_5 => some μ_5
theorem hd_X7_enter : yX7_enter.cls = RX7 ∧ yX7_enter.cls ≠ "java/lang/invoke/MethodHandle" ∧ yX7_enter.cls ≠ "java/lang/invoke/VarHandle" ∧ (parseMethodDescriptor yX7_enter.desc).map (fun d => d.parameters.length) = some 3 := by decide +kernel
set_option maxHeartbeats 4000000 in
set_option maxRecDepth 100000 in
theorem c_X7_enter (l : Launch) {g : Geo} (hg : Good g) (μ : Mem) (sz : Nat) (q : Nat) (row : Int32) (st : Int32) (hq : isP q) {r : Mem} (hf : f_X7_enter g μ q row st = some r) : Met l yX7_enter (ws_ yX7_enter cX7_enter 4 (Option.none : Option Jvm.ClassFile.FieldType)) (rm_ 0 0 0 0) (Pz g [.ref (g.ad 0), .ref (g.ad q), .int row, .int st] (fun H9 => H9.size = sz ∧ Rg g μ H9)) (va_Qv (fun _ : Unit => True) (fun _ t => Rg g r t.heap) (Ag g sz)) 0 0 (Ag g sz) := by
  refine Met.ofW (cc := cX7_enter) (maxL := 4) (ret := (Option.none : Option Jvm.ClassFile.FieldType)) (by decide) rfl ?_
  intro p e s m args below meth c s₁ B hml hv
  obtain ⟨rfl, hT, hsz, hP⟩ := hv
  have hx := B.exec
  have hb := B.bytes
  have hr := B.returns
  have hts : ∀ w ∈ lw_all, w.before _ s = true := fun w h => atoms_spec (ws := (ws_ yX7_enter cX7_enter 4 (Option.none : Option Jvm.ClassFile.FieldType))) B.pre w (List.mem_cons_of_mem _ h)
  have hown : s.vm.findClass RX7 = some m.cls := findClass_of_methodNamed B.named
  have hlocks := B.notSynchronized
  subst hsz
  have hD := fun ν => Ag.apart hg s.heap.size ν
  have hS : va_S (Ag g s.heap.size) s.heap s.heap [] := va_S.rf
  have hl := lv_entry ([.ref (g.ad 0), .ref (g.ad q), .int row, .int st]) (n := 4) (Nat.le_of_ble_eq_true rfl)
  rw [lg_entry_eq]
  generalize (lg_sl ([.ref (g.ad 0), .ref (g.ad q), .int row, .int st]) ++ List.replicate (4 - (lg_sl ([.ref (g.ad 0), .ref (g.ad q), .int row, .int st])).length) Slot.unset).toArray = ls at hl ⊢
  have hl : lv_has ls 4 [(0, .ref (g.ad 0)), (1, .ref (g.ad q)), (2, .int row), (3, .int st)] := hl
  unfold f_X7_enter at hf
  refine lv_aload_n hx hb dX7_enter_0 rfl (lv_at hl 0 rfl) ?_
  refine lv_dup hx hb dX7_enter_1 rfl ?_
  refine r_get hx hb hts i_X7 hown hT hP inW (fs := (fsW g)) (obW g) rfl 9 (by decide) q203 (fun _ h9 => h9) rfl dX7_enter_2 ?_
  refine lv_iconst (v := 1) hx hb dX7_enter_5 (by decide) ?_
  refine lv_iadd hx hb dX7_enter_6 ?_
  refine r_put hx hb hts i_X7 tyX7 tyX7_ok nmX7 hown hT hP hD hS inW (fs := (fsW g)) (obW g) rfl 9 (by decide) q203 (fun _ h9 => h9) rfl (ty := .int) (x := (μ 0 9) + 1) rfl rfl rfl (fun _ => rfl) (Nat.le_of_ble_eq_true rfl) dX7_enter_7 (fun H locs hP hS => ?_)
  obtain ⟨μ_1, eμ_1⟩ : ∃ z, put μ 0 9 ((μ 0 9) + 1) = z := ⟨_, rfl⟩
  rw [eμ_1] at hP
  have hf := bnd_eq hf _ eμ_1
  refine lv_aload_n hx hb dX7_enter_10 rfl (lv_at hl 1 rfl) ?_
  refine lv_iload_n hx hb dX7_enter_11 rfl (lv_at hl 2 rfl) ?_
  refine r_put hx hb hts i_X2 tyX2 tyX2_ok nmX2 hown hT hP hD hS (inP hq) (fs := (fsP g q)) (obP hq) rfl 9 (by decide) q136 (fun _ h9 => h9) rfl (ty := .int) (x := row) rfl rfl rfl (fun _ => rfl) (Nat.le_of_ble_eq_true rfl) dX7_enter_12 (fun H locs hP hS => ?_)
  obtain ⟨μ_2, eμ_2⟩ : ∃ z, put μ_1 q 9 row = z := ⟨_, rfl⟩
  rw [eμ_2] at hP
  have hf := bnd_eq hf _ eμ_2
  refine lv_aload_n hx hb dX7_enter_15 rfl (lv_at hl 1 rfl) ?_
  refine lv_iconst (v := 0) hx hb dX7_enter_16 (by decide) ?_
  refine r_put hx hb hts i_X2 tyX2 tyX2_ok nmX2 hown hT hP hD hS (inP hq) (fs := (fsP g q)) (obP hq) rfl 10 (by decide) q138 (fun _ h9 => h9) rfl (ty := .int) (x := 0) rfl rfl rfl (fun _ => rfl) (Nat.le_of_ble_eq_true rfl) dX7_enter_17 (fun H locs hP hS => ?_)
  obtain ⟨μ_3, eμ_3⟩ : ∃ z, put μ_2 q 10 0 = z := ⟨_, rfl⟩
  rw [eμ_3] at hP
  have hf := bnd_eq hf _ eμ_3
  refine lv_aload_n hx hb dX7_enter_20 rfl (lv_at hl 1 rfl) ?_
  refine lv_aload_n hx hb dX7_enter_21 rfl (lv_at hl 0 rfl) ?_
  refine r_get hx hb hts i_X7 hown hT hP inW (fs := (fsW g)) (obW g) rfl 9 (by decide) q203 (fun _ h9 => h9) rfl dX7_enter_22 ?_
  refine r_put hx hb hts i_X2 tyX2 tyX2_ok nmX2 hown hT hP hD hS (inP hq) (fs := (fsP g q)) (obP hq) rfl 11 (by decide) q140 (fun _ h9 => h9) rfl (ty := .int) (x := μ_3 0 9) rfl rfl rfl (fun _ => rfl) (Nat.le_of_ble_eq_true rfl) dX7_enter_25 (fun H locs hP hS => ?_)
  obtain ⟨μ_4, eμ_4⟩ : ∃ z, put μ_3 q 11 (μ_3 0 9) = z := ⟨_, rfl⟩
  rw [eμ_4] at hP
  have hf := bnd_eq hf _ eμ_4
  refine lv_aload_n hx hb dX7_enter_28 rfl (lv_at hl 1 rfl) ?_
  refine lv_iload_n hx hb dX7_enter_29 rfl (lv_at hl 3 rfl) ?_
  refine r_put hx hb hts i_X2 tyX2 tyX2_ok nmX2 hown hT hP hD hS (inP hq) (fs := (fsP g q)) (obP hq) rfl 6 (by decide) q128 (fun _ h9 => h9) rfl (ty := .int) (x := st) rfl rfl rfl (fun _ => rfl) (Nat.le_of_ble_eq_true rfl) dX7_enter_30 (fun H locs hP hS => ?_)
  obtain ⟨μ_5, eμ_5⟩ : ∃ z, put μ_4 q 6 st = z := ⟨_, rfl⟩
  rw [eμ_5] at hP
  have hf := bnd_eq hf _ eμ_5
  exact W.vret hx hb hr (fun t9 ht hW => ⟨⟨(), rfl, trivial, by show Rg g r t9.heap; rw [ht, ← Option.some.inj hf]; exact hP⟩, hS.F ht⟩) hS.2.2 dX7_enter_33
/-- "Sandglass$World" "countIn" "(I)I" -/
def b_X7_countIn_14 (g : Geo) : Nat → Mem → Int32 → Int32 → Int32 → Int32 → Option (Int32)
  | 0, _, _, _, _, _ => none
  | n + 1, μ, x1, x2, x4, x5 => if x4 ≤ x5 then (some x2) else (grd (¬ (x5 < 0 ∨ 24 ≤ x5.toNatClampNeg)) (bnd (x5.toNatClampNeg + 1) fun k_4 => if (μ k_4 9) = x1 then (b_X7_countIn_14 g n μ x1 (x2 + 1) x4 (x5 + 1)) else (b_X7_countIn_14 g n μ x1 x2 x4 (x5 + 1))))
def f_X7_countIn (g : Geo) (μ : Mem) (row : Int32) : Option (Int32) := b_X7_countIn_14 g fu μ row 0 24 0
theorem hd_X7_countIn : yX7_countIn.cls = RX7 ∧ yX7_countIn.cls ≠ "java/lang/invoke/MethodHandle" ∧ yX7_countIn.cls ≠ "java/lang/invoke/VarHandle" ∧ (parseMethodDescriptor yX7_countIn.desc).map (fun d => d.parameters.length) = some 1 := by decide +kernel
set_option maxHeartbeats 4000000 in
set_option maxRecDepth 100000 in
theorem c_X7_countIn (l : Launch) {g : Geo} (hg : Good g) (μ : Mem) (row : Int32) {r : Int32} (hf : f_X7_countIn g μ row = some r) : Met l yX7_countIn (ws_ yX7_countIn cX7_countIn 7 (some .int)) (rm_ 0 0 0 0) (Pz g [.ref (g.ad 0), .int row] (Rg g μ)) (va_Qi (fun (v : Int32) (_ : Unit) => v = r) (fun _ _ => True) (fun _ => False)) 0 0 (fun _ => False) := by
  refine Met.ofW (cc := cX7_countIn) (maxL := 7) (ret := (some .int)) (by decide) rfl ?_
  intro p e s m args below meth c s₁ B hml hv
  obtain ⟨rfl, hT, hP⟩ := hv
  have hx := B.exec
  have hb := B.bytes
  have hr := B.returns
  have hts : ∀ w ∈ lw_all, w.before _ s = true := fun w h => atoms_spec (ws := (ws_ yX7_countIn cX7_countIn 7 (some .int))) B.pre w (List.mem_cons_of_mem _ h)
  have hown : s.vm.findClass RX7 = some m.cls := findClass_of_methodNamed B.named
  have hlocks := B.notSynchronized
  have hS : va_S (fun _ => False) s.heap s.heap [] := va_S.rf
  have L14 : ∀ (n : Nat) (μ : Mem) (x1 : Int32) (x2 : Int32) (x4 : Int32) (x5 : Int32) (H : Heap) (locs : List Loc) (ls : Array Slot), Rg g μ H → va_S (fun _ => False) s.heap H locs → lv_has ls 7 [(1, .int x1), (2, .int x2), (3, .ref (g.ad 97)), (4, .int x4), (5, .int x5)] → b_X7_countIn_14 g n μ x1 x2 x4 x5 = some r → W p l e (headSpec (ws_ yX7_countIn cX7_countIn 7 (some .int)) (rm_ 0 0 0 0)).room s m ([.ref (g.ad 0), .int row] : List Value).toArray below meth c H locs 0 0 (MQ below (va_Qi (fun (v : Int32) (_ : Unit) => v = r) (fun _ _ => True) (fun _ => False)) ([.ref (g.ad 0), .int row] : List Value).toArray s 0 0 (fun _ => False)) (F0 m 14 ls []) := by
    intro n
    induction n with
    | zero => intro μ x1 x2 x4 x5 H locs ls hP hS hl  hf; cases hf
    | succ n ih =>
      intro μ x1 x2 x4 x5 H locs ls hP hS hl  hf
      rw [b_X7_countIn_14] at hf
      refine lv_iload hx hb dX7_countIn_14 (lv_at hl 4 rfl) ?_
      refine lv_iload hx hb dX7_countIn_16 (lv_at hl 3 rfl) ?_
      refine lv_icmp_ge (tgt := 45) hx hb dX7_countIn_18 (by decide) (fun c_1 => ?_) (fun c_1 => ?_)
      · have hf := (if_pos c_1).symm.trans hf
        refine lv_iload_n hx hb dX7_countIn_45 rfl (lv_at hl 1 rfl) ?_
        exact W.iret (v := x2) hx hb hr (fun t9 ht hW => ⟨⟨x2, (), rfl, Option.some.inj hf, trivial⟩, hS.F ht⟩) hS.2.2 dX7_countIn_46
      · have hf := (if_neg c_1).symm.trans hf
        refine lv_aload_n hx hb dX7_countIn_21 rfl (lv_at hl 2 rfl) ?_
        refine lv_iload hx hb dX7_countIn_22 (lv_at hl 4 rfl) ?_
        obtain ⟨hi_2, hf⟩ := grd_some hf
        refine r_aaldP hx hb hT hP hi_2 dX7_countIn_24 (fun hp_3 => ?_)
        obtain ⟨k_4, ek_4⟩ : ∃ z, x5.toNatClampNeg + 1 = z := ⟨_, rfl⟩
        rw [ek_4] at hp_3 ⊢
        have hf := bnd_eq hf _ ek_4
        refine lv_astore (lv' := [(6, .ref (g.ad k_4)), (1, .int x1), (2, .int x2), (3, .ref (g.ad 97)), (4, .int x4), (5, .int x5)]) hx hb dX7_countIn_25 hl (by decide) rfl (fun ls hl => ?_)
        refine lv_aload hx hb dX7_countIn_27 (lv_at hl 0 rfl) ?_
        refine r_get hx hb hts i_X2 hown hT hP (inP hp_3) (fs := (fsP g k_4)) (obP hp_3) rfl 9 (by decide) q136 (fun _ h9 => h9) rfl dX7_countIn_29 ?_
        refine lv_iload_n hx hb dX7_countIn_32 rfl (lv_at hl 1 rfl) ?_
        refine lv_icmp_ne (tgt := 39) hx hb dX7_countIn_33 (by decide) (fun c_5 => ?_) (fun c_5 => ?_)
        · have hf := (if_neg c_5).symm.trans hf
          refine lv_iinc (v := x5 + 1) (lv' := [(5, .int (x5 + 1)), (6, .ref (g.ad k_4)), (1, .int x1), (2, .int x2), (3, .ref (g.ad 97)), (4, .int x4)]) hx hb dX7_countIn_39 hl (k := 5) rfl rfl (by decide) rfl (fun ls hl => ?_)
          refine lv_goto (tgt := 14) hx hb dX7_countIn_42 (by decide) ?_
          exact ih μ x1 x2 x4 (x5 + 1) _ _ _ hP hS (lv_sub hl [2, 3, 4, 5, 0] rfl)  hf
        · have hf := (if_pos c_5).symm.trans hf
          refine lv_iinc (v := x2 + 1) (lv' := [(2, .int (x2 + 1)), (6, .ref (g.ad k_4)), (1, .int x1), (3, .ref (g.ad 97)), (4, .int x4), (5, .int x5)]) hx hb dX7_countIn_36 hl (k := 2) rfl rfl (by decide) rfl (fun ls hl => ?_)
          refine lv_iinc (v := x5 + 1) (lv' := [(5, .int (x5 + 1)), (2, .int (x2 + 1)), (6, .ref (g.ad k_4)), (1, .int x1), (3, .ref (g.ad 97)), (4, .int x4)]) hx hb dX7_countIn_39 hl (k := 5) rfl rfl (by decide) rfl (fun ls hl => ?_)
          refine lv_goto (tgt := 14) hx hb dX7_countIn_42 (by decide) ?_
          exact ih μ x1 (x2 + 1) x4 (x5 + 1) _ _ _ hP hS (lv_sub hl [3, 1, 4, 5, 0] rfl)  hf
  have hl := lv_entry ([.ref (g.ad 0), .int row]) (n := 7) (Nat.le_of_ble_eq_true rfl)
  rw [lg_entry_eq]
  generalize (lg_sl ([.ref (g.ad 0), .int row]) ++ List.replicate (7 - (lg_sl ([.ref (g.ad 0), .int row])).length) Slot.unset).toArray = ls at hl ⊢
  have hl : lv_has ls 7 [(0, .ref (g.ad 0)), (1, .int row)] := hl
  unfold f_X7_countIn at hf
  refine lv_iconst (v := 0) hx hb dX7_countIn_0 (by decide) ?_
  refine lv_istore_n (lv' := [(2, .int 0), (0, .ref (g.ad 0)), (1, .int row)]) hx hb dX7_countIn_1 rfl hl (by decide) rfl (fun ls hl => ?_)
  refine lv_aload_n hx hb dX7_countIn_2 rfl (lv_at hl 1 rfl) ?_
  refine r_get hx hb hts i_X7 hown hT hP inW (fs := (fsW g)) (obW g) rfl 4 (by decide) q194 (fun _ h9 => h9) rfl dX7_countIn_3 ?_
  refine lv_astore_n (lv' := [(3, .ref (g.ad 97)), (2, .int 0), (0, .ref (g.ad 0)), (1, .int row)]) hx hb dX7_countIn_6 rfl hl (by decide) rfl (fun ls hl => ?_)
  refine lv_aload_n hx hb dX7_countIn_7 rfl (lv_at hl 0 rfl) ?_
  refine r_alenP hx hb hT hP dX7_countIn_8 ?_
  refine lv_istore (lv' := [(4, .int 24), (3, .ref (g.ad 97)), (2, .int 0), (0, .ref (g.ad 0)), (1, .int row)]) hx hb dX7_countIn_9 hl (by decide) rfl (fun ls hl => ?_)
  refine lv_iconst (v := 0) hx hb dX7_countIn_11 (by decide) ?_
  refine lv_istore (lv' := [(5, .int 0), (4, .int 24), (3, .ref (g.ad 97)), (2, .int 0), (0, .ref (g.ad 0)), (1, .int row)]) hx hb dX7_countIn_12 hl (by decide) rfl (fun ls hl => ?_)
  exact L14 fu μ row 0 24 0 _ _ _ hP hS (lv_sub hl [5, 3, 2, 1, 0] rfl)  hf
/-- "Sandglass$World" "firstIn" "(I)LSandglass$Proc;" -/
def b_X7_firstIn_14 (g : Geo) : Nat → Mem → Int32 → Option Nat → Int32 → Int32 → Option ((Option Nat))
  | 0, _, _, _, _, _ => none
  | n + 1, μ, x1, x2, x4, x5 => if x4 ≤ x5 then (csQ x2 (some (none)) (fun o_2 => grd (1 ≤ o_2 ∧ o_2 < 25) (some (some o_2)))) else (grd (¬ (x5 < 0 ∨ 24 ≤ x5.toNatClampNeg)) (bnd (x5.toNatClampNeg + 1) fun k_5 => if (μ k_5 9) = x1 then (csQ x2 (b_X7_firstIn_14 g n μ x1 (some k_5) x4 (x5 + 1)) (fun o_7 => grd (1 ≤ o_7 ∧ o_7 < 25) (bnO (f_X2_standsBefore g μ k_5 o_7) fun r_8 => if r_8 = 0 then (b_X7_firstIn_14 g n μ x1 (some o_7) x4 (x5 + 1)) else (b_X7_firstIn_14 g n μ x1 (some k_5) x4 (x5 + 1))))) else (b_X7_firstIn_14 g n μ x1 x2 x4 (x5 + 1))))
def f_X7_firstIn (g : Geo) (μ : Mem) (row : Int32) : Option ((Option Nat)) := b_X7_firstIn_14 g fu μ row none 24 0
theorem hd_X7_firstIn : yX7_firstIn.cls = RX7 ∧ yX7_firstIn.cls ≠ "java/lang/invoke/MethodHandle" ∧ yX7_firstIn.cls ≠ "java/lang/invoke/VarHandle" ∧ (parseMethodDescriptor yX7_firstIn.desc).map (fun d => d.parameters.length) = some 1 := by decide +kernel
set_option maxHeartbeats 4000000 in
set_option maxRecDepth 100000 in
theorem c_X7_firstIn (l : Launch) {g : Geo} (hg : Good g) (μ : Mem) (row : Int32) {r : (Option Nat)} (hf : f_X7_firstIn g μ row = some r) : Met l yX7_firstIn (ws_ yX7_firstIn cX7_firstIn 7 (some (.object "Sandglass$Proc"))) (rm_ 1 21 0 0) (Pz g [.ref (g.ad 0), .int row] (Rg g μ)) (va_Qq (fun (v : Option Nat) (_ : Unit) => v = r.map g.ad) (fun _ _ => True) (fun _ => False)) 0 0 (fun _ => False) := by
  refine Met.ofW (cc := cX7_firstIn) (maxL := 7) (ret := (some (.object "Sandglass$Proc"))) (by decide) rfl ?_
  intro p e s m args below meth c s₁ B hml hv
  obtain ⟨rfl, hT, hP⟩ := hv
  have hx := B.exec
  have hb := B.bytes
  have hr := B.returns
  have hts : ∀ w ∈ lw_all, w.before _ s = true := fun w h => atoms_spec (ws := (ws_ yX7_firstIn cX7_firstIn 7 (some (.object "Sandglass$Proc")))) B.pre w (List.mem_cons_of_mem _ h)
  have hown : s.vm.findClass RX7 = some m.cls := findClass_of_methodNamed B.named
  have hlocks := B.notSynchronized
  have hS : va_S (fun _ => False) s.heap s.heap [] := va_S.rf
  have L14 : ∀ (n : Nat) (μ : Mem) (x1 : Int32) (x2 : Option Nat) (x4 : Int32) (x5 : Int32) (H : Heap) (locs : List Loc) (ls : Array Slot), Rg g μ H → va_S (fun _ => False) s.heap H locs → lv_has ls 7 [(1, .int x1), (2, va_rf (x2.map g.ad)), (3, .ref (g.ad 97)), (4, .int x4), (5, .int x5)] → b_X7_firstIn_14 g n μ x1 x2 x4 x5 = some r → W p l e (headSpec (ws_ yX7_firstIn cX7_firstIn 7 (some (.object "Sandglass$Proc"))) (rm_ 1 21 0 0)).room s m ([.ref (g.ad 0), .int row] : List Value).toArray below meth c H locs 0 0 (MQ below (va_Qq (fun (v : Option Nat) (_ : Unit) => v = r.map g.ad) (fun _ _ => True) (fun _ => False)) ([.ref (g.ad 0), .int row] : List Value).toArray s 0 0 (fun _ => False)) (F0 m 14 ls []) := by
    intro n
    induction n with
    | zero => intro μ x1 x2 x4 x5 H locs ls hP hS hl  hf; cases hf
    | succ n ih =>
      intro μ x1 x2 x4 x5 H locs ls hP hS hl  hf
      rw [b_X7_firstIn_14] at hf
      refine lv_iload hx hb dX7_firstIn_14 (lv_at hl 4 rfl) ?_
      refine lv_iload hx hb dX7_firstIn_16 (lv_at hl 3 rfl) ?_
      refine lv_icmp_ge (tgt := 58) hx hb dX7_firstIn_18 (by decide) (fun c_1 => ?_) (fun c_1 => ?_)
      · have hf := (if_pos c_1).symm.trans hf
        cases x2 with
        | none =>
          have hl : lv_has ls 7 [(1, .int x1), (2, .null), (3, .ref (g.ad 97)), (4, .int x4), (5, .int x5)] := hl
          dsimp only [csQ] at hf
          refine lv_aload_nN hx hb dX7_firstIn_58 rfl (lv_at hl 1 rfl) ?_
          exact W.aret (v := .null) (rt := .object "Sandglass$Proc") hx hb hr (Or.inl ⟨_, rfl⟩) (Or.inl rfl) (fun t9 ht hW => ⟨⟨none, (), rfl, by rw [← Option.some.inj hf]; rfl, trivial⟩, hS.F ht⟩) hS.2.2 dX7_firstIn_59
        | some o_2 =>
          have hl : lv_has ls 7 [(1, .int x1), (2, .ref (g.ad o_2)), (3, .ref (g.ad 97)), (4, .int x4), (5, .int x5)] := hl
          dsimp only [csQ] at hf
          obtain ⟨ho_2, hf⟩ := grd_some hf
          refine lv_aload_n hx hb dX7_firstIn_58 rfl (lv_at hl 1 rfl) ?_
          exact W.aret (v := .ref (g.ad o_2)) (rt := .object "Sandglass$Proc") hx hb hr (Or.inl ⟨_, rfl⟩) (Or.inr ⟨_, rfl⟩) (fun t9 ht hW => ⟨⟨(some (g.ad o_2)), (), rfl, by rw [← Option.some.inj hf]; rfl, trivial⟩, hS.F ht⟩) hS.2.2 dX7_firstIn_59
      · have hf := (if_neg c_1).symm.trans hf
        refine lv_aload_n hx hb dX7_firstIn_21 rfl (lv_at hl 2 rfl) ?_
        refine lv_iload hx hb dX7_firstIn_22 (lv_at hl 4 rfl) ?_
        obtain ⟨hi_3, hf⟩ := grd_some hf
        refine r_aaldP hx hb hT hP hi_3 dX7_firstIn_24 (fun hp_4 => ?_)
        obtain ⟨k_5, ek_5⟩ : ∃ z, x5.toNatClampNeg + 1 = z := ⟨_, rfl⟩
        rw [ek_5] at hp_4 ⊢
        have hf := bnd_eq hf _ ek_5
        refine lv_astore (lv' := [(6, .ref (g.ad k_5)), (1, .int x1), (2, va_rf (x2.map g.ad)), (3, .ref (g.ad 97)), (4, .int x4), (5, .int x5)]) hx hb dX7_firstIn_25 hl (by decide) rfl (fun ls hl => ?_)
        refine lv_aload hx hb dX7_firstIn_27 (lv_at hl 0 rfl) ?_
        refine r_get hx hb hts i_X2 hown hT hP (inP hp_4) (fs := (fsP g k_5)) (obP hp_4) rfl 9 (by decide) q136 (fun _ h9 => h9) rfl dX7_firstIn_29 ?_
        refine lv_iload_n hx hb dX7_firstIn_32 rfl (lv_at hl 1 rfl) ?_
        refine lv_icmp_ne (tgt := 52) hx hb dX7_firstIn_33 (by decide) (fun c_6 => ?_) (fun c_6 => ?_)
        · have hf := (if_neg c_6).symm.trans hf
          refine lv_iinc (v := x5 + 1) (lv' := [(5, .int (x5 + 1)), (6, .ref (g.ad k_5)), (1, .int x1), (2, va_rf (x2.map g.ad)), (3, .ref (g.ad 97)), (4, .int x4)]) hx hb dX7_firstIn_52 hl (k := 5) rfl rfl (by decide) rfl (fun ls hl => ?_)
          refine lv_goto (tgt := 14) hx hb dX7_firstIn_55 (by decide) ?_
          exact ih μ x1 x2 x4 (x5 + 1) _ _ _ hP hS (lv_sub hl [2, 3, 4, 5, 0] rfl)  hf
        · have hf := (if_pos c_6).symm.trans hf
          cases x2 with
          | none =>
            have hl : lv_has ls 7 [(6, .ref (g.ad k_5)), (1, .int x1), (2, .null), (3, .ref (g.ad 97)), (4, .int x4), (5, .int x5)] := hl
            dsimp only [csQ] at hf
            refine lv_aload_nN hx hb dX7_firstIn_36 rfl (lv_at hl 2 rfl) ?_
            refine lv_ifnullN (tgt := 49) hx hb dX7_firstIn_37 (by decide) ?_
            refine lv_aload hx hb dX7_firstIn_49 (lv_at hl 0 rfl) ?_
            refine lv_astore_n (lv' := [(2, .ref (g.ad k_5)), (6, .ref (g.ad k_5)), (1, .int x1), (3, .ref (g.ad 97)), (4, .int x4), (5, .int x5)]) hx hb dX7_firstIn_51 rfl hl (by decide) rfl (fun ls hl => ?_)
            refine lv_iinc (v := x5 + 1) (lv' := [(5, .int (x5 + 1)), (2, .ref (g.ad k_5)), (6, .ref (g.ad k_5)), (1, .int x1), (3, .ref (g.ad 97)), (4, .int x4)]) hx hb dX7_firstIn_52 hl (k := 5) rfl rfl (by decide) rfl (fun ls hl => ?_)
            refine lv_goto (tgt := 14) hx hb dX7_firstIn_55 (by decide) ?_
            exact ih μ x1 (some k_5) x4 (x5 + 1) _ _ _ hP hS (lv_sub hl [3, 1, 4, 5, 0] rfl)  hf
          | some o_7 =>
            have hl : lv_has ls 7 [(6, .ref (g.ad k_5)), (1, .int x1), (2, .ref (g.ad o_7)), (3, .ref (g.ad 97)), (4, .int x4), (5, .int x5)] := hl
            dsimp only [csQ] at hf
            obtain ⟨ho_7, hf⟩ := grd_some hf
            refine lv_aload_n hx hb dX7_firstIn_36 rfl (lv_at hl 2 rfl) ?_
            refine lv_ifnull hx hb dX7_firstIn_37 ?_
            refine lv_aload hx hb dX7_firstIn_40 (lv_at hl 0 rfl) ?_
            refine lv_aload_n hx hb dX7_firstIn_42 rfl (lv_at hl 2 rfl) ?_
            obtain ⟨r_8, hc_9, hf⟩ := bnO_some hf
            refine va_calli (va_runV (As := [.ref (g.ad o_7)]) (rest := []) ⟨hx, hb, hml, hown, hts⟩ (c_X2_standsBefore l hg μ k_5 o_7 hp_4 ho_7 hc_9) (cwV 1 hts (gd_V q450 q451 q452 q42 q453) rfl rfl rfl hd_X2_standsBefore ⟨Nat.le_of_ble_eq_true rfl, Nat.le_of_ble_eq_true rfl⟩) ⟨Pz.blind, r_recv hT hP (inP hp_4) (fs := (fsP g k_5)) (obP hp_4) rfl, fun U hU hW => ⟨rfl, Tb.warm hW hT, by rw [hU]; exact hP⟩⟩ rfl rfl hl.1 rfl (lv_room (Nat.le_of_ble_eq_true rfl)) dX7_firstIn_43 ⟨Nat.le_of_ble_eq_true rfl, Nat.le_of_ble_eq_true rfl⟩) hS (fun q _ h => h.elim) (fun q h => h.elim) (fun v9 u9 t9 H locs ht9 hvm9 hw9 hB9 hz9 hk9 hS => ?_)
            have hP := Rg.keep hP (fun q h => hk9 q h id)
            rw [hw9]
            refine lv_if_eq (tgt := 52) hx hb dX7_firstIn_46 (by decide) (fun c_10 => ?_) (fun c_10 => ?_)
            · have hf := (if_pos c_10).symm.trans hf
              refine lv_iinc (v := x5 + 1) (lv' := [(5, .int (x5 + 1)), (6, .ref (g.ad k_5)), (1, .int x1), (2, .ref (g.ad o_7)), (3, .ref (g.ad 97)), (4, .int x4)]) hx hb dX7_firstIn_52 hl (k := 5) rfl rfl (by decide) rfl (fun ls hl => ?_)
              refine lv_goto (tgt := 14) hx hb dX7_firstIn_55 (by decide) ?_
              exact ih μ x1 (some o_7) x4 (x5 + 1) _ _ _ hP hS (lv_sub hl [2, 3, 4, 5, 0] rfl)  hf
            · have hf := (if_neg c_10).symm.trans hf
              refine lv_aload hx hb dX7_firstIn_49 (lv_at hl 0 rfl) ?_
              refine lv_astore_n (lv' := [(2, .ref (g.ad k_5)), (6, .ref (g.ad k_5)), (1, .int x1), (3, .ref (g.ad 97)), (4, .int x4), (5, .int x5)]) hx hb dX7_firstIn_51 rfl hl (by decide) rfl (fun ls hl => ?_)
              refine lv_iinc (v := x5 + 1) (lv' := [(5, .int (x5 + 1)), (2, .ref (g.ad k_5)), (6, .ref (g.ad k_5)), (1, .int x1), (3, .ref (g.ad 97)), (4, .int x4)]) hx hb dX7_firstIn_52 hl (k := 5) rfl rfl (by decide) rfl (fun ls hl => ?_)
              refine lv_goto (tgt := 14) hx hb dX7_firstIn_55 (by decide) ?_
              exact ih μ x1 (some k_5) x4 (x5 + 1) _ _ _ hP hS (lv_sub hl [3, 1, 4, 5, 0] rfl)  hf
  have hl := lv_entry ([.ref (g.ad 0), .int row]) (n := 7) (Nat.le_of_ble_eq_true rfl)
  rw [lg_entry_eq]
  generalize (lg_sl ([.ref (g.ad 0), .int row]) ++ List.replicate (7 - (lg_sl ([.ref (g.ad 0), .int row])).length) Slot.unset).toArray = ls at hl ⊢
  have hl : lv_has ls 7 [(0, .ref (g.ad 0)), (1, .int row)] := hl
  unfold f_X7_firstIn at hf
  refine lv_null hx hb dX7_firstIn_0 ?_
  refine lv_astore_nN (lv' := [(2, .null), (0, .ref (g.ad 0)), (1, .int row)]) hx hb dX7_firstIn_1 rfl hl (by decide) rfl (fun ls hl => ?_)
  refine lv_aload_n hx hb dX7_firstIn_2 rfl (lv_at hl 1 rfl) ?_
  refine r_get hx hb hts i_X7 hown hT hP inW (fs := (fsW g)) (obW g) rfl 4 (by decide) q194 (fun _ h9 => h9) rfl dX7_firstIn_3 ?_
  refine lv_astore_n (lv' := [(3, .ref (g.ad 97)), (2, .null), (0, .ref (g.ad 0)), (1, .int row)]) hx hb dX7_firstIn_6 rfl hl (by decide) rfl (fun ls hl => ?_)
  refine lv_aload_n hx hb dX7_firstIn_7 rfl (lv_at hl 0 rfl) ?_
  refine r_alenP hx hb hT hP dX7_firstIn_8 ?_
  refine lv_istore (lv' := [(4, .int 24), (3, .ref (g.ad 97)), (2, .null), (0, .ref (g.ad 0)), (1, .int row)]) hx hb dX7_firstIn_9 hl (by decide) rfl (fun ls hl => ?_)
  refine lv_iconst (v := 0) hx hb dX7_firstIn_11 (by decide) ?_
  refine lv_istore (lv' := [(5, .int 0), (4, .int 24), (3, .ref (g.ad 97)), (2, .null), (0, .ref (g.ad 0)), (1, .int row)]) hx hb dX7_firstIn_12 hl (by decide) rfl (fun ls hl => ?_)
  exact L14 fu μ row none 24 0 _ _ _ hP hS (lv_sub hl [5, 3, 2, 1, 0] rfl)  hf
end
section
/-! lists: size() and get(i); the numbers of the things in a list -/
theorem r_cast {p : Program} {l : Launch} {e : Env} {R : Room} {s : State} {m : MethodId} {args : Array Value} {below : List Frame} {meth : Method} {c : Code} {H : Heap} {locs : List Loc} {cells slots : Nat} {Q : State → Prop} {cc : ByteArray} {pc : Nat} {ls : Array Slot} {rest : List Value} {g : Geo} {μ : Mem} {k : Nat} (hx : p.tables.exec = Jvm.exec) (hb : c.code = cc) (hts : ∀ w ∈ lw_all, w.before args s = true) {own C : String} {T : u_T} {N ci index : Nat} (hown : s.vm.findClass own = some m.cls) (hT : Tb g s) (hP : Rg g μ H) (hk : k ∈ g.idx) {fs : (Nat → Int32) → List Value} (he : ∀ n, ob g k n = .inr (ci, fs n)) (hc : vwCl[ci]? = some (C, T, N)) (hlink : Cond.classLink own index C ∈ lw_all) (hdg : decode cc pc = .ok (.checkcast index, 3))
    (kk : W p l e R s m args below meth c H locs cells slots Q (F0 m (pc + 3) ls (.ref (g.ad k) :: rest))) : W p l e R s m args below meth c H locs cells slots Q (F0 m pc ls (.ref (g.ad k) :: rest)) :=
  va_castS hx hb hown (hts _ hlink) (hT.1.1 ci _ hc).2 (r_recv hT hP hk he hc) hdg kk
/-- a list at object t, its row at object a, of n things f -/
def isLs (g : Geo) (t a n : Nat) (f : Nat → Option Nat) : Prop := t ∈ g.idx ∧ a ∈ g.idx ∧ n ≤ 10 ∧ (∀ m, ob g t m = .inr (0, [.int 0, .ref (g.ad a), .int (nI n)])) ∧ ∀ m, ob g a m = .inl (g.cy 2, 10, .inr (.inr (.inr (.inr f))))
theorem q_Jsize : Cond.fieldLink RJx4a65c 48 (TJx4a65c 2).1 (TJx4a65c 2).2.1 (TJx4a65c 2).2.2.1 ∈ lw_all := q85
theorem q_Jdata : Cond.fieldLink RJx4a65c 9 (TJx4a65c 1).1 (TJx4a65c 1).2.1 (TJx4a65c 1).2.2.1 ∈ lw_all := q84
/-- "jdk/internal/util/Preconditions" "checkIndex" "(IILjava/util/function/BiFunction;)I" -/
def f_J3_checkIndex_8e157 (g : Geo) (μ : Mem) (i : Int32) (n : Int32) : Option (Int32) := if i < 0 then none else (if i < n then (some i) else none)
theorem hd_J3_checkIndex_8e157 : yJ3_checkIndex_8e157.cls = RJ3 ∧ yJ3_checkIndex_8e157.cls ≠ "java/lang/invoke/MethodHandle" ∧ yJ3_checkIndex_8e157.cls ≠ "java/lang/invoke/VarHandle" ∧ (parseMethodDescriptor yJ3_checkIndex_8e157.desc).map (fun d => d.parameters.length) = some 3 := by decide +kernel
set_option maxHeartbeats 4000000 in
set_option maxRecDepth 100000 in
theorem c_J3_checkIndex_8e157 (l : Launch) {g : Geo} (hg : Good g) (μ : Mem) (i : Int32) (n : Int32) {r : Int32} (hf : f_J3_checkIndex_8e157 g μ i n = some r) : Met l yJ3_checkIndex_8e157 (ws_ yJ3_checkIndex_8e157 cJ3_checkIndex_8e157 3 (some .int)) (rm_ 0 0 0 0) (Pz g [.int i, .int n, .null] (Rg g μ)) (va_Qi (fun (v : Int32) (_ : Unit) => v = r) (fun _ _ => True) (fun _ => False)) 0 0 (fun _ => False) := by
  refine Met.ofW (cc := cJ3_checkIndex_8e157) (maxL := 3) (ret := (some .int)) (by decide) rfl ?_
  intro p e s m args below meth c s₁ B hml hv
  obtain ⟨rfl, hT, hP⟩ := hv
  have hx := B.exec
  have hb := B.bytes
  have hr := B.returns
  have hts : ∀ w ∈ lw_all, w.before _ s = true := fun w h => atoms_spec (ws := (ws_ yJ3_checkIndex_8e157 cJ3_checkIndex_8e157 3 (some .int))) B.pre w (List.mem_cons_of_mem _ h)
  have hown : s.vm.findClass RJ3 = some m.cls := findClass_of_methodNamed B.named
  have hlocks := B.notSynchronized
  have hS : va_S (fun _ => False) s.heap s.heap [] := va_S.rf
  have hl := lv_entry ([.int i, .int n, .null]) (n := 3) (Nat.le_of_ble_eq_true rfl)
  rw [lg_entry_eq]
  generalize (lg_sl ([.int i, .int n, .null]) ++ List.replicate (3 - (lg_sl ([.int i, .int n, .null])).length) Slot.unset).toArray = ls at hl ⊢
  have hl : lv_has ls 3 [(0, .int i), (1, .int n), (2, .null)] := hl
  unfold f_J3_checkIndex_8e157 at hf
  refine lv_iload_n hx hb dJ3_checkIndex_8e157_0 rfl (lv_at hl 0 rfl) ?_
  refine lv_if_lt (tgt := 9) hx hb dJ3_checkIndex_8e157_1 (by decide) (fun c_1 => ?_) (fun c_1 => ?_)
  · have hf := (if_pos c_1).symm.trans hf
    refine lv_aload_nN hx hb dJ3_checkIndex_8e157_9 rfl (lv_at hl 2 rfl) ?_
    refine lv_iload_n hx hb dJ3_checkIndex_8e157_10 rfl (lv_at hl 0 rfl) ?_
    refine lv_iload_n hx hb dJ3_checkIndex_8e157_11 rfl (lv_at hl 1 rfl) ?_
    cases hf
  · have hf := (if_neg c_1).symm.trans hf
    refine lv_iload_n hx hb dJ3_checkIndex_8e157_4 rfl (lv_at hl 0 rfl) ?_
    refine lv_iload_n hx hb dJ3_checkIndex_8e157_5 rfl (lv_at hl 1 rfl) ?_
    refine lv_icmp_lt (tgt := 16) hx hb dJ3_checkIndex_8e157_6 (by decide) (fun c_2 => ?_) (fun c_2 => ?_)
    · have hf := (if_pos c_2).symm.trans hf
      refine lv_iload_n hx hb dJ3_checkIndex_8e157_16 rfl (lv_at hl 0 rfl) ?_
      exact W.iret (v := i) hx hb hr (fun t ht hW => ⟨⟨i, (), rfl, Option.some.inj hf, trivial⟩, hS.F ht⟩) hS.2.2 dJ3_checkIndex_8e157_17
    · have hf := (if_neg c_2).symm.trans hf
      refine lv_aload_nN hx hb dJ3_checkIndex_8e157_9 rfl (lv_at hl 2 rfl) ?_
      refine lv_iload_n hx hb dJ3_checkIndex_8e157_10 rfl (lv_at hl 0 rfl) ?_
      refine lv_iload_n hx hb dJ3_checkIndex_8e157_11 rfl (lv_at hl 1 rfl) ?_
      cases hf
/-- "java/util/Objects" "checkIndex" "(II)I" -/
def f_J15_checkIndex_7cf53 (g : Geo) (μ : Mem) (i : Int32) (n : Int32) : Option (Int32) := bnO (f_J3_checkIndex_8e157 g μ i n) fun r_1 => some r_1
theorem hd_J15_checkIndex_7cf53 : yJ15_checkIndex_7cf53.cls = RJ15 ∧ yJ15_checkIndex_7cf53.cls ≠ "java/lang/invoke/MethodHandle" ∧ yJ15_checkIndex_7cf53.cls ≠ "java/lang/invoke/VarHandle" ∧ (parseMethodDescriptor yJ15_checkIndex_7cf53.desc).map (fun d => d.parameters.length) = some 2 := by decide +kernel
set_option maxHeartbeats 4000000 in
set_option maxRecDepth 100000 in
theorem c_J15_checkIndex_7cf53 (l : Launch) {g : Geo} (hg : Good g) (μ : Mem) (i : Int32) (n : Int32) {r : Int32} (hf : f_J15_checkIndex_7cf53 g μ i n = some r) : Met l yJ15_checkIndex_7cf53 (ws_ yJ15_checkIndex_7cf53 cJ15_checkIndex_7cf53 2 (some .int)) (rm_ 1 22 0 0) (Pz g [.int i, .int n] (Rg g μ)) (va_Qi (fun (v : Int32) (_ : Unit) => v = r) (fun _ _ => True) (fun _ => False)) 0 0 (fun _ => False) := by
  refine Met.ofW (cc := cJ15_checkIndex_7cf53) (maxL := 2) (ret := (some .int)) (by decide) rfl ?_
  intro p e s m args below meth c s₁ B hml hv
  obtain ⟨rfl, hT, hP⟩ := hv
  have hx := B.exec
  have hb := B.bytes
  have hr := B.returns
  have hts : ∀ w ∈ lw_all, w.before _ s = true := fun w h => atoms_spec (ws := (ws_ yJ15_checkIndex_7cf53 cJ15_checkIndex_7cf53 2 (some .int))) B.pre w (List.mem_cons_of_mem _ h)
  have hown : s.vm.findClass RJ15 = some m.cls := findClass_of_methodNamed B.named
  have hlocks := B.notSynchronized
  have hS : va_S (fun _ => False) s.heap s.heap [] := va_S.rf
  have hl := lv_entry ([.int i, .int n]) (n := 2) (Nat.le_of_ble_eq_true rfl)
  rw [lg_entry_eq]
  generalize (lg_sl ([.int i, .int n]) ++ List.replicate (2 - (lg_sl ([.int i, .int n])).length) Slot.unset).toArray = ls at hl ⊢
  have hl : lv_has ls 2 [(0, .int i), (1, .int n)] := hl
  unfold f_J15_checkIndex_7cf53 at hf
  refine lv_iload_n hx hb dJ15_checkIndex_7cf53_0 rfl (lv_at hl 0 rfl) ?_
  refine lv_iload_n hx hb dJ15_checkIndex_7cf53_1 rfl (lv_at hl 1 rfl) ?_
  refine lv_null hx hb dJ15_checkIndex_7cf53_2 ?_
  obtain ⟨r_1, hc_2, hf⟩ := bnO_some hf
  refine va_calli (va_runS (As := [.int i, .int n, .null]) (rest := []) ⟨hx, hb, hml, hown, hts⟩ (c_J3_checkIndex_8e157 l hg μ i n  hc_2) (va_cwS 3 hts (gd_S q336 q337 q57 q338) rfl rfl rfl hd_J3_checkIndex_8e157.2 ⟨Nat.le_of_ble_eq_true rfl, Nat.le_of_ble_eq_true rfl⟩) ⟨Pz.blind, fun U hU hW => ⟨rfl, Tb.warm hW hT, by rw [hU]; exact hP⟩⟩ rfl rfl hl.1 rfl (lv_room (Nat.le_of_ble_eq_true rfl)) dJ15_checkIndex_7cf53_3 ⟨Nat.le_of_ble_eq_true rfl, Nat.le_of_ble_eq_true rfl⟩) hS (fun q _ h => h.elim) (fun q h => h.elim) (fun v9 u9 t9 H locs ht9 hvm9 hw9 hB9 hz9 hk9 hS => ?_)
  have hP := Rg.keep hP (fun q h => hk9 q h id)
  rw [hw9]
  exact W.iret (v := r_1) hx hb hr (fun t ht hW => ⟨⟨r_1, (), rfl, Option.some.inj hf, trivial⟩, hS.F ht⟩) hS.2.2 dJ15_checkIndex_7cf53_6
theorem hd_Jx4a65c_size_8abf5 : yJx4a65c_size_8abf5.cls = RJx4a65c ∧ yJx4a65c_size_8abf5.cls ≠ "java/lang/invoke/MethodHandle" ∧ yJx4a65c_size_8abf5.cls ≠ "java/lang/invoke/VarHandle" ∧ (parseMethodDescriptor yJx4a65c_size_8abf5.desc).map (fun d => d.parameters.length) = some 0 := by decide +kernel
set_option maxHeartbeats 4000000 in
set_option maxRecDepth 100000 in
theorem c_Jx4a65c_size_8abf5 (l : Launch) {g : Geo} (hg : Good g) (μ : Mem) {t e n : Nat} (hk : t ∈ g.idx) (ho : ∀ m, ob g t m = obL e n) : Met l yJx4a65c_size_8abf5 (ws_ yJx4a65c_size_8abf5 cJx4a65c_size_8abf5 1 (some .int)) (rm_ 0 0 0 0) (Pz g [.ref (g.ad t)] (Rg g μ)) (va_Qi (fun (v : Int32) (_ : Unit) => v = nI n) (fun _ _ => True) (fun _ => False)) 0 0 (fun _ => False) := by
  refine Met.ofW (cc := cJx4a65c_size_8abf5) (maxL := 1) (ret := (some .int)) (by decide) rfl ?_
  intro p e9 s m args below meth c s₁ B hml hv
  obtain ⟨rfl, hT, hP⟩ := hv
  have hx := B.exec
  have hb := B.bytes
  have hr := B.returns
  have hts : ∀ w ∈ lw_all, w.before _ s = true := fun w h => atoms_spec (ws := (ws_ yJx4a65c_size_8abf5 cJx4a65c_size_8abf5 1 (some .int))) B.pre w (List.mem_cons_of_mem _ h)
  have hown : s.vm.findClass RJx4a65c = some m.cls := findClass_of_methodNamed B.named
  have hlocks := B.notSynchronized
  have hS : va_S (fun _ => False) s.heap s.heap [] := va_S.rf
  have hl := lv_entry ([.ref (g.ad t)]) (n := 1) (Nat.le_of_ble_eq_true rfl)
  rw [lg_entry_eq]
  generalize (lg_sl ([.ref (g.ad t)]) ++ List.replicate (1 - (lg_sl ([.ref (g.ad t)])).length) Slot.unset).toArray = ls at hl ⊢
  have hl : lv_has ls 1 [(0, .ref (g.ad t))] := hl
  refine lv_aload_n hx hb dJx4a65c_size_8abf5_0 rfl (lv_at hl 0 rfl) ?_
  refine r_get hx hb hts i_Jx4a65c hown hT hP hk (fs := (fun _ => [.int 0, .ref e, .int (nI n)])) ho rfl 2 (by decide) q_Jsize (fun _ h9 => h9) rfl dJx4a65c_size_8abf5_1 ?_
  exact W.iret (v := nI n) hx hb hr (fun t ht hW => ⟨⟨nI n, (), rfl, rfl, trivial⟩, hS.F ht⟩) hS.2.2 dJx4a65c_size_8abf5_4
theorem hd_Jx4a65c_elementData_915e3 : yJx4a65c_elementData_915e3.cls = RJx4a65c ∧ yJx4a65c_elementData_915e3.cls ≠ "java/lang/invoke/MethodHandle" ∧ yJx4a65c_elementData_915e3.cls ≠ "java/lang/invoke/VarHandle" ∧ (parseMethodDescriptor yJx4a65c_elementData_915e3.desc).map (fun d => d.parameters.length) = some 1 := by decide +kernel
set_option maxHeartbeats 4000000 in
set_option maxRecDepth 100000 in
theorem c_Jx4a65c_elementData_915e3 (l : Launch) {g : Geo} (hg : Good g) (μ : Mem) {t a n : Nat} {f : Nat → Option Nat} (ht : isLs g t a n f) {i : Int32} {j : Nat} (hi : i = nI j) (hj : j < n) : Met l yJx4a65c_elementData_915e3 (ws_ yJx4a65c_elementData_915e3 cJx4a65c_elementData_915e3 2 (some (.object "java/lang/Object"))) (rm_ 0 0 0 0) (Pz g [.ref (g.ad t), .int i] (Rg g μ)) (va_Qq (fun (v : Option Nat) (_ : Unit) => v = f j) (fun _ _ => True) (fun _ => False)) 0 0 (fun _ => False) := by
  refine Met.ofW (cc := cJx4a65c_elementData_915e3) (maxL := 2) (ret := (some (.object "java/lang/Object"))) (by decide) rfl ?_
  intro p e s m args below meth c s₁ B hml hv
  obtain ⟨rfl, hT, hP⟩ := hv
  have hx := B.exec
  have hb := B.bytes
  have hr := B.returns
  have hts : ∀ w ∈ lw_all, w.before _ s = true := fun w h => atoms_spec (ws := (ws_ yJx4a65c_elementData_915e3 cJx4a65c_elementData_915e3 2 (some (.object "java/lang/Object")))) B.pre w (List.mem_cons_of_mem _ h)
  have hown : s.vm.findClass RJx4a65c = some m.cls := findClass_of_methodNamed B.named
  have hlocks := B.notSynchronized
  have hS : va_S (fun _ => False) s.heap s.heap [] := va_S.rf
  have hl := lv_entry ([.ref (g.ad t), .int i]) (n := 2) (Nat.le_of_ble_eq_true rfl)
  rw [lg_entry_eq]
  generalize (lg_sl ([.ref (g.ad t), .int i]) ++ List.replicate (2 - (lg_sl ([.ref (g.ad t), .int i])).length) Slot.unset).toArray = ls at hl ⊢
  have hl : lv_has ls 2 [(0, .ref (g.ad t)), (1, .int i)] := hl
  obtain ⟨h1, h2, h3, h4, h5⟩ := ht
  refine lv_aload_n hx hb dJx4a65c_elementData_915e3_0 rfl (lv_at hl 0 rfl) ?_
  refine r_get hx hb hts i_Jx4a65c hown hT hP h1 (fs := (fun _ => [.int 0, .ref (g.ad a), .int (nI n)])) h4 rfl 1 (by decide) q_Jdata (fun _ h9 => h9) rfl dJx4a65c_elementData_915e3_1 ?_
  refine lv_iload_n hx hb dJx4a65c_elementData_915e3_4 rfl (lv_at hl 1 rfl) ?_
  obtain ⟨j0, -, hj0⟩ := obs_get (g := g) (μ := μ) h2
  rw [h5] at hj0
  have hin : ¬ (i < 0 ∨ 10 ≤ i.toNatClampNeg) := by rw [hi]; exact nI_in (by omega) (by decide)
  refine va_aldq hx hb hT.1 hP j0 2 hj0 rfl hin dJx4a65c_elementData_915e3_5 ?_
  rw [show i.toNatClampNeg = j by rw [hi]; exact nI_clamp (by omega)]
  exact W.aret (v := va_rf (f j)) (rt := .object "java/lang/Object") hx hb hr (Or.inl ⟨_, rfl⟩) (va_rf_or _) (fun t ht hW => ⟨⟨f j, (), rfl, rfl, trivial⟩, hS.F ht⟩) hS.2.2 dJx4a65c_elementData_915e3_6
theorem hd_Jx4a65c_get_915e3 : yJx4a65c_get_915e3.cls = RJx4a65c ∧ yJx4a65c_get_915e3.cls ≠ "java/lang/invoke/MethodHandle" ∧ yJx4a65c_get_915e3.cls ≠ "java/lang/invoke/VarHandle" ∧ (parseMethodDescriptor yJx4a65c_get_915e3.desc).map (fun d => d.parameters.length) = some 1 := by decide +kernel
theorem f_J15 {g : Geo} {μ : Mem} {i : Int32} {j n : Nat} (hi : i = nI j) (hj : j < n) (hn : n ≤ 10) : f_J15_checkIndex_7cf53 g μ i (nI n) = some i := by
  have h1 : ¬ i < 0 := by rw [hi]; exact nI_pos (by omega)
  have h2 : i < nI n := by rw [hi]; exact nI_lt hj (by omega)
  simp [f_J15_checkIndex_7cf53, f_J3_checkIndex_8e157, bnO, h1, h2]
set_option maxHeartbeats 4000000 in
set_option maxRecDepth 100000 in
theorem c_Jx4a65c_get_915e3 (l : Launch) {g : Geo} (hg : Good g) (μ : Mem) {t a n : Nat} {f : Nat → Option Nat} (ht : isLs g t a n f) {i : Int32} {j : Nat} (hi : i = nI j) (hj : j < n) : Met l yJx4a65c_get_915e3 (ws_ yJx4a65c_get_915e3 cJx4a65c_get_915e3 2 (some (.object "java/lang/Object"))) (rm_ 2 43 0 0) (Pz g [.ref (g.ad t), .int i] (Rg g μ)) (va_Qq (fun (v : Option Nat) (_ : Unit) => v = f j) (fun _ _ => True) (fun _ => False)) 0 0 (fun _ => False) := by
  refine Met.ofW (cc := cJx4a65c_get_915e3) (maxL := 2) (ret := (some (.object "java/lang/Object"))) (by decide) rfl ?_
  intro p e s m args below meth c s₁ B hml hv
  obtain ⟨rfl, hT, hP⟩ := hv
  have hx := B.exec
  have hb := B.bytes
  have hr := B.returns
  have hts : ∀ w ∈ lw_all, w.before _ s = true := fun w h => atoms_spec (ws := (ws_ yJx4a65c_get_915e3 cJx4a65c_get_915e3 2 (some (.object "java/lang/Object")))) B.pre w (List.mem_cons_of_mem _ h)
  have hown : s.vm.findClass RJx4a65c = some m.cls := findClass_of_methodNamed B.named
  have hlocks := B.notSynchronized
  have hS : va_S (fun _ => False) s.heap s.heap [] := va_S.rf
  have hl := lv_entry ([.ref (g.ad t), .int i]) (n := 2) (Nat.le_of_ble_eq_true rfl)
  rw [lg_entry_eq]
  generalize (lg_sl ([.ref (g.ad t), .int i]) ++ List.replicate (2 - (lg_sl ([.ref (g.ad t), .int i])).length) Slot.unset).toArray = ls at hl ⊢
  have hl : lv_has ls 2 [(0, .ref (g.ad t)), (1, .int i)] := hl
  obtain ⟨h1, h2, h3, h4, h5⟩ := id ht
  refine lv_iload_n hx hb dJx4a65c_get_915e3_0 rfl (lv_at hl 1 rfl) ?_
  refine lv_aload_n hx hb dJx4a65c_get_915e3_1 rfl (lv_at hl 0 rfl) ?_
  refine r_get hx hb hts i_Jx4a65c hown hT hP h1 (fs := (fun _ => [.int 0, .ref (g.ad a), .int (nI n)])) h4 rfl 2 (by decide) q_Jsize (fun _ h9 => h9) rfl dJx4a65c_get_915e3_2 ?_
  refine va_calli (va_runS (As := [.int i, .int (nI n)]) (rest := []) ⟨hx, hb, hml, hown, hts⟩ (c_J15_checkIndex_7cf53 l hg μ i (nI n) (f_J15 hi hj h3)) (va_cwS 2 hts (gd_S q333 q334 q56 q335) rfl rfl rfl hd_J15_checkIndex_7cf53.2 ⟨Nat.le_of_ble_eq_true rfl, Nat.le_of_ble_eq_true rfl⟩) ⟨Pz.blind, fun U hU hW => ⟨rfl, Tb.warm hW hT, by rw [hU]; exact hP⟩⟩ rfl rfl hl.1 rfl (lv_room (Nat.le_of_ble_eq_true rfl)) dJx4a65c_get_915e3_5 ⟨Nat.le_of_ble_eq_true rfl, Nat.le_of_ble_eq_true rfl⟩) hS (fun q _ h => h.elim) (fun q h => h.elim) (fun v9 u9 t9 H locs ht9 hvm9 hw9 hB9 hz9 hk9 hS => ?_)
  have hP := Rg.keep hP (fun q h => hk9 q h id)
  refine lv_pop hx hb dJx4a65c_get_915e3_8 rfl ?_
  refine lv_aload_n hx hb dJx4a65c_get_915e3_9 rfl (lv_at hl 0 rfl) ?_
  refine lv_iload_n hx hb dJx4a65c_get_915e3_10 rfl (lv_at hl 1 rfl) ?_
  refine va_callq (va_runV (As := [.int i]) (rest := []) ⟨hx, hb, hml, hown, hts⟩ (c_Jx4a65c_elementData_915e3 l hg μ ht hi hj) (cwV 1 hts (gd_V q339 q340 q341 q40 q342) rfl rfl rfl hd_Jx4a65c_elementData_915e3 ⟨Nat.le_of_ble_eq_true rfl, Nat.le_of_ble_eq_true rfl⟩) ⟨Pz.blind, r_recv hT hP h1 (fs := (fun _ => [.int 0, .ref (g.ad a), .int (nI n)])) h4 rfl, fun U hU hW => ⟨rfl, Tb.warm hW hT, by rw [hU]; exact hP⟩⟩ rfl rfl hl.1 rfl (lv_room (Nat.le_of_ble_eq_true rfl)) dJx4a65c_get_915e3_11 ⟨Nat.le_of_ble_eq_true rfl, Nat.le_of_ble_eq_true rfl⟩) hS (fun q _ h => h.elim) (fun q h => h.elim) (fun v9 u9 t9 H locs ht9 hvm9 hw9 hB9 hz9 hk9 hS => ?_)
  rw [hw9]
  exact W.aret (v := va_rf (f j)) (rt := .object "java/lang/Object") hx hb hr (Or.inl ⟨_, rfl⟩) (va_rf_or _) (fun t ht hW => ⟨⟨f j, (), rfl, rfl, trivial⟩, hS.F ht⟩) hS.2.2 dJx4a65c_get_915e3_14
theorem nI_self {i : Int32} (h : ¬ i < 0) : i = nI i.toNatClampNeg := by
  obtain ⟨j, hj, e⟩ := nI_of h
  rw [e, nI_clamp hj]
def fnL (g : Geo) (n b : Nat) : Nat → Option Nat := fun i => if i < n then some (g.ad (b + i)) else none
theorem fnL_in {g : Geo} {n b j : Nat} (h : j < n) : fnL g n b j = some (g.ad (b + j)) := if_pos h
theorem szR (g : Geo) (m : Nat → Int32) : ob g 98 m = obL (g.ad 99) (g.sz 0) := by simp [ob]
theorem szS (g : Geo) (m : Nat → Int32) : ob g 100 m = obL (g.ad 101) (g.sz 1) := by simp [ob]
theorem szC (g : Geo) (m : Nat → Int32) : ob g 112 m = obL (g.ad 113) (g.sz 2) := by simp [ob]
theorem szN {g : Geo} {k : Nat} (h : isC g k) (m : Nat → Int32) : ob g (k + 8) m = obL (g.ad (k + 16)) (g.sz (k - 104)) := by
  obtain ⟨h1, -, h2⟩ := h
  unfold ob
  rw [if_neg (by omega), if_neg (by omega), if_neg (by omega), if_neg (by omega), if_neg (by omega), if_neg (by omega), if_neg (by omega), if_neg (by omega), if_neg (by omega), if_neg (by omega), if_neg (by omega), if_neg (by omega), if_neg (by omega), if_neg (by omega), if_pos (by omega), show k + 8 - 112 = k - 104 by omega]
theorem inNL {g : Geo} {k : Nat} (h : isC g k) : k + 8 ∈ g.idx := by
  obtain ⟨h1, h2, h3⟩ := h
  exact mem_idx.mpr ⟨by omega, by unfold pres; rw [if_neg (by omega), if_neg (by omega), if_neg (by omega), if_neg (by omega), if_neg (by omega), if_pos (by omega)]; exact decide_eq_true (by omega)⟩
theorem in112 {g : Geo} : 112 ∈ g.idx := mem_idx.mpr ⟨by omega, by simp [pres]⟩
theorem in113 {g : Geo} : 113 ∈ g.idx := mem_idx.mpr ⟨by omega, by simp [pres]⟩
theorem lsR {g : Geo} (hg : Good g) : isLs g 98 99 (g.sz 0) (fnL g (g.sz 0) 102) := ⟨inBase (by decide), inBase (by decide), by have := hg.2.1; omega, szR g, fun m => by (simp [ob]; rfl)⟩
theorem lsS {g : Geo} (hg : Good g) : isLs g 100 101 (g.sz 1) (fnL g (g.sz 1) 108) := ⟨inBase (by decide), inBase (by decide), by have := hg.2.2.1; omega, szS g, fun m => by (simp [ob]; rfl)⟩
theorem lsC {g : Geo} (hg : Good g) : isLs g 112 113 (g.sz 2) (fnL g (g.sz 2) 114) := ⟨in112, in113, by have := hg.2.2.2.1; omega, szC g, fun m => by (simp [ob]; rfl)⟩
theorem lsN {g : Geo} (hg : Good g) {k : Nat} (h : isC g k) (h0 : 0 < g.sz (k - 104)) : isLs g (k + 8) (k + 16) (g.sz (k - 104)) (fnL g (g.sz (k - 104)) (138 + 16 * (k - 114))) := by
  refine ⟨inNL h, ?_, ?_, szN h, ?_⟩
  · obtain ⟨h1, h2, h3⟩ := h
    exact mem_idx.mpr ⟨by omega, by unfold pres; rw [if_neg (by omega), if_neg (by omega), if_neg (by omega), if_neg (by omega), if_neg (by omega), if_neg (by omega), if_pos (by omega), show k + 16 - 120 = k - 104 by omega]; exact decide_eq_true ⟨by omega, h0⟩⟩
  · have := hg.2.2.2.2 (k - 114)
    obtain ⟨h1, -, h2⟩ := h
    rw [show 10 + (k - 114) = k - 104 by omega] at this
    exact this
  · intro m
    obtain ⟨h1, -, h2⟩ := h
    unfold ob fnL
    rw [if_neg (by omega), if_neg (by omega), if_neg (by omega), if_neg (by omega), if_neg (by omega), if_neg (by omega), if_neg (by omega), if_neg (by omega), if_neg (by omega), if_neg (by omega), if_neg (by omega), if_neg (by omega), if_neg (by omega), if_neg (by omega), if_neg (by omega), if_pos (by omega), show k + 16 - 120 = k - 104 by omega, show k + 16 - 130 = k - 114 by omega]
theorem in98 {g : Geo} : 98 ∈ g.idx := inBase (by decide)
theorem in100 {g : Geo} : 100 ∈ g.idx := inBase (by decide)
end
section
/-- "Sandglass" "copyRow" "([I[I)V" -/
def b_X8_copyRow_2 (g : Geo) : Nat → Mem → Nat → Nat → Int32 → Option (Mem)
  | 0, _, _, _, _ => none
  | n + 1, μ, x0, x1, x2 => if (nI (alen x0)) ≤ x2 then (some μ) else (if (nI (alen x1)) ≤ x2 then (some μ) else (grd (¬ (x2 < 0 ∨ alen x0 ≤ x2.toNatClampNeg)) (grd (¬ (x2 < 0 ∨ alen x1 ≤ x2.toNatClampNeg)) (bnd (put μ x1 x2.toNatClampNeg (μ x0 x2.toNatClampNeg)) fun μ_5 => b_X8_copyRow_2 g n μ_5 x0 x1 (x2 + 1)))))
def f_X8_copyRow (g : Geo) (μ : Mem) (fr : Nat) (to : Nat) : Option (Mem) := b_X8_copyRow_2 g fu μ fr to 0
theorem hd_X8_copyRow : yX8_copyRow.cls = RX8 ∧ yX8_copyRow.cls ≠ "java/lang/invoke/MethodHandle" ∧ yX8_copyRow.cls ≠ "java/lang/invoke/VarHandle" ∧ (parseMethodDescriptor yX8_copyRow.desc).map (fun d => d.parameters.length) = some 2 := by decide +kernel
set_option maxHeartbeats 4000000 in
set_option maxRecDepth 100000 in
theorem c_X8_copyRow (l : Launch) {g : Geo} (hg : Good g) (μ : Mem) (sz : Nat) (fr : Nat) (to : Nat) (hfr : isA fr) (hto : isA to) {r : Mem} (hf : f_X8_copyRow g μ fr to = some r) : Met l yX8_copyRow (ws_ yX8_copyRow cX8_copyRow 3 (Option.none : Option Jvm.ClassFile.FieldType)) (rm_ 0 0 0 0) (Pz g [.ref (g.ad fr), .ref (g.ad to)] (fun H9 => H9.size = sz ∧ Rg g μ H9)) (va_Qv (fun _ : Unit => True) (fun _ t => Rg g r t.heap) (Ag g sz)) 0 0 (Ag g sz) := by
  refine Met.ofW (cc := cX8_copyRow) (maxL := 3) (ret := (Option.none : Option Jvm.ClassFile.FieldType)) (by decide) rfl ?_
  intro p e s m args below meth c s₁ B hml hv
  obtain ⟨rfl, hT, hsz, hP⟩ := hv
  have hx := B.exec
  have hb := B.bytes
  have hr := B.returns
  have hts : ∀ w ∈ lw_all, w.before _ s = true := fun w h => atoms_spec (ws := (ws_ yX8_copyRow cX8_copyRow 3 (Option.none : Option Jvm.ClassFile.FieldType))) B.pre w (List.mem_cons_of_mem _ h)
  have hown : s.vm.findClass RX8 = some m.cls := findClass_of_methodNamed B.named
  have hlocks := B.notSynchronized
  subst hsz
  have hD := fun ν => Ag.apart hg s.heap.size ν
  have hS : va_S (Ag g s.heap.size) s.heap s.heap [] := va_S.rf
  have L2 : ∀ (n : Nat) (μ : Mem) (x0 : Nat) (x1 : Nat) (x2 : Int32) (H : Heap) (locs : List Loc) (ls : Array Slot), Rg g μ H → va_S (Ag g s.heap.size) s.heap H locs → lv_has ls 3 [(0, .ref (g.ad x0)), (1, .ref (g.ad x1)), (2, .int x2)] → isA x0 → isA x1 → b_X8_copyRow_2 g n μ x0 x1 x2 = some r → W p l e (headSpec (ws_ yX8_copyRow cX8_copyRow 3 (Option.none : Option Jvm.ClassFile.FieldType)) (rm_ 0 0 0 0)).room s m ([.ref (g.ad fr), .ref (g.ad to)] : List Value).toArray below meth c H locs 0 0 (MQ below (va_Qv (fun _ : Unit => True) (fun _ t => Rg g r t.heap) (Ag g s.heap.size)) ([.ref (g.ad fr), .ref (g.ad to)] : List Value).toArray s 0 0 (Ag g s.heap.size)) (F0 m 2 ls []) := by
    intro n
    induction n with
    | zero => intro μ x0 x1 x2 H locs ls hP hS hl hx0 hx1 hf; cases hf
    | succ n ih =>
      intro μ x0 x1 x2 H locs ls hP hS hl hx0 hx1 hf
      rw [b_X8_copyRow_2] at hf
      refine lv_iload_n hx hb dX8_copyRow_2 rfl (lv_at hl 2 rfl) ?_
      refine lv_aload_n hx hb dX8_copyRow_3 rfl (lv_at hl 0 rfl) ?_
      refine r_alenA hx hb hT hP hx0 dX8_copyRow_4 ?_
      refine lv_icmp_ge (tgt := 26) hx hb dX8_copyRow_5 (by decide) (fun c_1 => ?_) (fun c_1 => ?_)
      · have hf := (if_pos c_1).symm.trans hf
        exact W.vret hx hb hr (fun t9 ht hW => ⟨⟨(), rfl, trivial, by show Rg g r t9.heap; rw [ht, ← Option.some.inj hf]; exact hP⟩, hS.F ht⟩) hS.2.2 dX8_copyRow_26
      · have hf := (if_neg c_1).symm.trans hf
        refine lv_iload_n hx hb dX8_copyRow_8 rfl (lv_at hl 2 rfl) ?_
        refine lv_aload_n hx hb dX8_copyRow_9 rfl (lv_at hl 1 rfl) ?_
        refine r_alenA hx hb hT hP hx1 dX8_copyRow_10 ?_
        refine lv_icmp_ge (tgt := 26) hx hb dX8_copyRow_11 (by decide) (fun c_2 => ?_) (fun c_2 => ?_)
        · have hf := (if_pos c_2).symm.trans hf
          exact W.vret hx hb hr (fun t9 ht hW => ⟨⟨(), rfl, trivial, by show Rg g r t9.heap; rw [ht, ← Option.some.inj hf]; exact hP⟩, hS.F ht⟩) hS.2.2 dX8_copyRow_26
        · have hf := (if_neg c_2).symm.trans hf
          refine lv_aload_n hx hb dX8_copyRow_14 rfl (lv_at hl 1 rfl) ?_
          refine lv_iload_n hx hb dX8_copyRow_15 rfl (lv_at hl 2 rfl) ?_
          refine lv_aload_n hx hb dX8_copyRow_16 rfl (lv_at hl 0 rfl) ?_
          refine lv_iload_n hx hb dX8_copyRow_17 rfl (lv_at hl 2 rfl) ?_
          obtain ⟨hi_3, hf⟩ := grd_some hf
          refine r_iald hx hb hT hP hx0 hi_3 dX8_copyRow_18 ?_
          obtain ⟨hi_4, hf⟩ := grd_some hf
          refine r_iast hx hb hT hP hD hS hx1 hi_4 dX8_copyRow_19 (fun H locs hP hS => ?_)
          obtain ⟨μ_5, eμ_5⟩ : ∃ z, put μ x1 x2.toNatClampNeg (μ x0 x2.toNatClampNeg) = z := ⟨_, rfl⟩
          rw [eμ_5] at hP
          have hf := bnd_eq hf _ eμ_5
          refine lv_iinc (v := x2 + 1) (lv' := [(2, .int (x2 + 1)), (0, .ref (g.ad x0)), (1, .ref (g.ad x1))]) hx hb dX8_copyRow_20 hl (k := 2) rfl rfl (by decide) rfl (fun ls hl => ?_)
          refine lv_goto (tgt := 2) hx hb dX8_copyRow_23 (by decide) ?_
          exact ih μ_5 x0 x1 (x2 + 1) _ _ _ hP hS (lv_sub hl [1, 2, 0] rfl) hx0 hx1 hf
  have hl := lv_entry ([.ref (g.ad fr), .ref (g.ad to)]) (n := 3) (Nat.le_of_ble_eq_true rfl)
  rw [lg_entry_eq]
  generalize (lg_sl ([.ref (g.ad fr), .ref (g.ad to)]) ++ List.replicate (3 - (lg_sl ([.ref (g.ad fr), .ref (g.ad to)])).length) Slot.unset).toArray = ls at hl ⊢
  have hl : lv_has ls 3 [(0, .ref (g.ad fr)), (1, .ref (g.ad to))] := hl
  unfold f_X8_copyRow at hf
  refine lv_iconst (v := 0) hx hb dX8_copyRow_0 (by decide) ?_
  refine lv_istore_n (lv' := [(2, .int 0), (0, .ref (g.ad fr)), (1, .ref (g.ad to))]) hx hb dX8_copyRow_1 rfl hl (by decide) rfl (fun ls hl => ?_)
  exact L2 fu μ fr to 0 _ _ _ hP hS (lv_sub hl [1, 2, 0] rfl) hfr hto hf
/-- "Sandglass$Proc" "yieldsBefore" "(LSandglass$Proc;I)Z" -/
def f_X2_yieldsBefore (g : Geo) (μ : Mem) (t : Nat) (o : Nat) (rn : Int32) : Option (Int32) := if (μ o 2) < (μ t 2) then (some 1) else (if (μ t 2) = (μ o 2) then (bnO (f_X8_at g μ (t + 72) rn) fun r_3 => bnO (f_X8_at g μ (o + 72) rn) fun r_5 => if r_3 ≤ r_5 then (some 0) else (some 1)) else (some 0))
theorem hd_X2_yieldsBefore : yX2_yieldsBefore.cls = RX2 ∧ yX2_yieldsBefore.cls ≠ "java/lang/invoke/MethodHandle" ∧ yX2_yieldsBefore.cls ≠ "java/lang/invoke/VarHandle" ∧ (parseMethodDescriptor yX2_yieldsBefore.desc).map (fun d => d.parameters.length) = some 2 := by decide +kernel
set_option maxHeartbeats 4000000 in
set_option maxRecDepth 100000 in
theorem c_X2_yieldsBefore (l : Launch) {g : Geo} (hg : Good g) (μ : Mem) (t : Nat) (o : Nat) (rn : Int32) (ht : isP t) (ho : isP o) {r : Int32} (hf : f_X2_yieldsBefore g μ t o rn = some r) : Met l yX2_yieldsBefore (ws_ yX2_yieldsBefore cX2_yieldsBefore 3 (some .boolean)) (rm_ 1 21 0 0) (Pz g [.ref (g.ad t), .ref (g.ad o), .int rn] (Rg g μ)) (va_Qi (fun (v : Int32) (_ : Unit) => v = r) (fun _ _ => True) (fun _ => False)) 0 0 (fun _ => False) := by
  refine Met.ofW (cc := cX2_yieldsBefore) (maxL := 3) (ret := (some .boolean)) (by decide) rfl ?_
  intro p e s m args below meth c s₁ B hml hv
  obtain ⟨rfl, hT, hP⟩ := hv
  have hx := B.exec
  have hb := B.bytes
  have hr := B.returns
  have hts : ∀ w ∈ lw_all, w.before _ s = true := fun w h => atoms_spec (ws := (ws_ yX2_yieldsBefore cX2_yieldsBefore 3 (some .boolean))) B.pre w (List.mem_cons_of_mem _ h)
  have hown : s.vm.findClass RX2 = some m.cls := findClass_of_methodNamed B.named
  have hlocks := B.notSynchronized
  have hS : va_S (fun _ => False) s.heap s.heap [] := va_S.rf
  have hl := lv_entry ([.ref (g.ad t), .ref (g.ad o), .int rn]) (n := 3) (Nat.le_of_ble_eq_true rfl)
  rw [lg_entry_eq]
  generalize (lg_sl ([.ref (g.ad t), .ref (g.ad o), .int rn]) ++ List.replicate (3 - (lg_sl ([.ref (g.ad t), .ref (g.ad o), .int rn])).length) Slot.unset).toArray = ls at hl ⊢
  have hl : lv_has ls 3 [(0, .ref (g.ad t)), (1, .ref (g.ad o)), (2, .int rn)] := hl
  unfold f_X2_yieldsBefore at hf
  refine lv_aload_n hx hb dX2_yieldsBefore_0 rfl (lv_at hl 0 rfl) ?_
  refine r_get hx hb hts i_X2 hown hT hP (inP ht) (fs := (fsP g t)) (obP ht) rfl 2 (by decide) q115 (fun _ h9 => h9) rfl dX2_yieldsBefore_1 ?_
  refine lv_aload_n hx hb dX2_yieldsBefore_4 rfl (lv_at hl 1 rfl) ?_
  refine r_get hx hb hts i_X2 hown hT hP (inP ho) (fs := (fsP g o)) (obP ho) rfl 2 (by decide) q115 (fun _ h9 => h9) rfl dX2_yieldsBefore_5 ?_
  refine lv_icmp_gt (tgt := 41) hx hb dX2_yieldsBefore_8 (by decide) (fun c_1 => ?_) (fun c_1 => ?_)
  · have hf := (if_pos c_1).symm.trans hf
    refine lv_iconst (v := 1) hx hb dX2_yieldsBefore_41 (by decide) ?_
    refine lv_goto (tgt := 46) hx hb dX2_yieldsBefore_42 (by decide) ?_
    exact W.zret (v := 1) (ty := .boolean) hx hb hr (by decide) (fun t9 ht hW => ⟨⟨1, (), rfl, Option.some.inj hf, trivial⟩, hS.F ht⟩) hS.2.2 dX2_yieldsBefore_46
  · have hf := (if_neg c_1).symm.trans hf
    refine lv_aload_n hx hb dX2_yieldsBefore_11 rfl (lv_at hl 0 rfl) ?_
    refine r_get hx hb hts i_X2 hown hT hP (inP ht) (fs := (fsP g t)) (obP ht) rfl 2 (by decide) q115 (fun _ h9 => h9) rfl dX2_yieldsBefore_12 ?_
    refine lv_aload_n hx hb dX2_yieldsBefore_15 rfl (lv_at hl 1 rfl) ?_
    refine r_get hx hb hts i_X2 hown hT hP (inP ho) (fs := (fsP g o)) (obP ho) rfl 2 (by decide) q115 (fun _ h9 => h9) rfl dX2_yieldsBefore_16 ?_
    refine lv_icmp_ne (tgt := 45) hx hb dX2_yieldsBefore_19 (by decide) (fun c_2 => ?_) (fun c_2 => ?_)
    · have hf := (if_neg c_2).symm.trans hf
      refine lv_iconst (v := 0) hx hb dX2_yieldsBefore_45 (by decide) ?_
      exact W.zret (v := 0) (ty := .boolean) hx hb hr (by decide) (fun t9 ht hW => ⟨⟨0, (), rfl, Option.some.inj hf, trivial⟩, hS.F ht⟩) hS.2.2 dX2_yieldsBefore_46
    · have hf := (if_pos c_2).symm.trans hf
      refine lv_aload_n hx hb dX2_yieldsBefore_22 rfl (lv_at hl 0 rfl) ?_
      refine r_get hx hb hts i_X2 hown hT hP (inP ht) (fs := (fsP g t)) (obP ht) rfl 16 (by decide) q150 (fun _ h9 => h9) rfl dX2_yieldsBefore_23 ?_
      refine lv_iload_n hx hb dX2_yieldsBefore_26 rfl (lv_at hl 2 rfl) ?_
      obtain ⟨r_3, hc_4, hf⟩ := bnO_some hf
      refine va_calli (va_runSN (As := [.ref (g.ad (t + 72)), .int rn]) (rest := []) ⟨hx, hb, hml, hown, hts⟩ (c_X8_at l hg μ (t + 72) rn (show isP _ from ht).got hc_4) ⟨va_cnB 2 hts (gd_code q464) rfl rfl rfl (hT.2 _ (nst_1)) (hts _ q37) hd_X8_at.2 ⟨Nat.le_of_ble_eq_true rfl, Nat.le_of_ble_eq_true rfl⟩, hts _ q463, trivial⟩ ⟨Pz.blind, fun U hU hW => ⟨rfl, Tb.warm hW hT, by rw [hU]; exact hP⟩⟩ rfl rfl hl.1 rfl (lv_room (Nat.le_of_ble_eq_true rfl)) dX2_yieldsBefore_27 ⟨Nat.le_of_ble_eq_true rfl, Nat.le_of_ble_eq_true rfl⟩) hS (fun q _ h => h.elim) (fun q h => h.elim) (fun v9 u9 t9 H locs ht9 hvm9 hw9 hB9 hz9 hk9 hS => ?_)
      have hP := Rg.keep hP (fun q h => hk9 q h id)
      rw [hw9]
      refine lv_aload_n hx hb dX2_yieldsBefore_30 rfl (lv_at hl 1 rfl) ?_
      refine r_get hx hb hts i_X2 hown hT hP (inP ho) (fs := (fsP g o)) (obP ho) rfl 16 (by decide) q150 (fun _ h9 => h9) rfl dX2_yieldsBefore_31 ?_
      refine lv_iload_n hx hb dX2_yieldsBefore_34 rfl (lv_at hl 2 rfl) ?_
      obtain ⟨r_5, hc_6, hf⟩ := bnO_some hf
      refine va_calli (va_runSN (As := [.ref (g.ad (o + 72)), .int rn]) (rest := [.int r_3]) ⟨hx, hb, hml, hown, hts⟩ (c_X8_at l hg μ (o + 72) rn (show isP _ from ho).got hc_6) ⟨va_cnB 2 hts (gd_code q464) rfl rfl rfl (hT.2 _ (nst_1)) (hts _ q37) hd_X8_at.2 ⟨Nat.le_of_ble_eq_true rfl, Nat.le_of_ble_eq_true rfl⟩, hts _ q463, trivial⟩ ⟨Pz.blind, fun U hU hW => ⟨rfl, Tb.warm hW hT, by rw [hU]; exact hP⟩⟩ rfl rfl hl.1 rfl (lv_room (Nat.le_of_ble_eq_true rfl)) dX2_yieldsBefore_35 ⟨Nat.le_of_ble_eq_true rfl, Nat.le_of_ble_eq_true rfl⟩) hS (fun q _ h => h.elim) (fun q h => h.elim) (fun v9 u9 t9 H locs ht9 hvm9 hw9 hB9 hz9 hk9 hS => ?_)
      have hP := Rg.keep hP (fun q h => hk9 q h id)
      rw [hw9]
      refine lv_icmp_le (tgt := 45) hx hb dX2_yieldsBefore_38 (by decide) (fun c_7 => ?_) (fun c_7 => ?_)
      · have hf := (if_pos c_7).symm.trans hf
        refine lv_iconst (v := 0) hx hb dX2_yieldsBefore_45 (by decide) ?_
        exact W.zret (v := 0) (ty := .boolean) hx hb hr (by decide) (fun t9 ht hW => ⟨⟨0, (), rfl, Option.some.inj hf, trivial⟩, hS.F ht⟩) hS.2.2 dX2_yieldsBefore_46
      · have hf := (if_neg c_7).symm.trans hf
        refine lv_iconst (v := 1) hx hb dX2_yieldsBefore_41 (by decide) ?_
        refine lv_goto (tgt := 46) hx hb dX2_yieldsBefore_42 (by decide) ?_
        exact W.zret (v := 1) (ty := .boolean) hx hb hr (by decide) (fun t9 ht hW => ⟨⟨1, (), rfl, Option.some.inj hf, trivial⟩, hS.F ht⟩) hS.2.2 dX2_yieldsBefore_46
/-- "Sandglass$Proc" "heldInAll" "()I" -/
def b_X2_heldInAll_13 (g : Geo) : Nat → Mem → Int32 → Nat → Int32 → Int32 → Option (Int32)
  | 0, _, _, _, _, _ => none
  | n + 1, μ, x1, x2, x3, x4 => if x3 ≤ x4 then (some x1) else (grd (¬ (x4 < 0 ∨ alen x2 ≤ x4.toNatClampNeg)) (b_X2_heldInAll_13 g n μ (x1 + (μ x2 x4.toNatClampNeg)) x2 x3 (x4 + 1)))
def f_X2_heldInAll (g : Geo) (μ : Mem) (t : Nat) : Option (Int32) := b_X2_heldInAll_13 g fu μ 0 (t + 48) (nI (alen (t + 48))) 0
theorem hd_X2_heldInAll : yX2_heldInAll.cls = RX2 ∧ yX2_heldInAll.cls ≠ "java/lang/invoke/MethodHandle" ∧ yX2_heldInAll.cls ≠ "java/lang/invoke/VarHandle" ∧ (parseMethodDescriptor yX2_heldInAll.desc).map (fun d => d.parameters.length) = some 0 := by decide +kernel
set_option maxHeartbeats 4000000 in
set_option maxRecDepth 100000 in
theorem c_X2_heldInAll (l : Launch) {g : Geo} (hg : Good g) (μ : Mem) (t : Nat) (ht : isP t) {r : Int32} (hf : f_X2_heldInAll g μ t = some r) : Met l yX2_heldInAll (ws_ yX2_heldInAll cX2_heldInAll 6 (some .int)) (rm_ 0 0 0 0) (Pz g [.ref (g.ad t)] (Rg g μ)) (va_Qi (fun (v : Int32) (_ : Unit) => v = r) (fun _ _ => True) (fun _ => False)) 0 0 (fun _ => False) := by
  refine Met.ofW (cc := cX2_heldInAll) (maxL := 6) (ret := (some .int)) (by decide) rfl ?_
  intro p e s m args below meth c s₁ B hml hv
  obtain ⟨rfl, hT, hP⟩ := hv
  have hx := B.exec
  have hb := B.bytes
  have hr := B.returns
  have hts : ∀ w ∈ lw_all, w.before _ s = true := fun w h => atoms_spec (ws := (ws_ yX2_heldInAll cX2_heldInAll 6 (some .int))) B.pre w (List.mem_cons_of_mem _ h)
  have hown : s.vm.findClass RX2 = some m.cls := findClass_of_methodNamed B.named
  have hlocks := B.notSynchronized
  have hS : va_S (fun _ => False) s.heap s.heap [] := va_S.rf
  have L13 : ∀ (n : Nat) (μ : Mem) (x1 : Int32) (x2 : Nat) (x3 : Int32) (x4 : Int32) (H : Heap) (locs : List Loc) (ls : Array Slot), Rg g μ H → va_S (fun _ => False) s.heap H locs → lv_has ls 6 [(1, .int x1), (2, .ref (g.ad x2)), (3, .int x3), (4, .int x4)] → isA x2 → b_X2_heldInAll_13 g n μ x1 x2 x3 x4 = some r → W p l e (headSpec (ws_ yX2_heldInAll cX2_heldInAll 6 (some .int)) (rm_ 0 0 0 0)).room s m ([.ref (g.ad t)] : List Value).toArray below meth c H locs 0 0 (MQ below (va_Qi (fun (v : Int32) (_ : Unit) => v = r) (fun _ _ => True) (fun _ => False)) ([.ref (g.ad t)] : List Value).toArray s 0 0 (fun _ => False)) (F0 m 13 ls []) := by
    intro n
    induction n with
    | zero => intro μ x1 x2 x3 x4 H locs ls hP hS hl hx2 hf; cases hf
    | succ n ih =>
      intro μ x1 x2 x3 x4 H locs ls hP hS hl hx2 hf
      rw [b_X2_heldInAll_13] at hf
      refine lv_iload hx hb dX2_heldInAll_13 (lv_at hl 3 rfl) ?_
      refine lv_iload_n hx hb dX2_heldInAll_15 rfl (lv_at hl 2 rfl) ?_
      refine lv_icmp_ge (tgt := 36) hx hb dX2_heldInAll_16 (by decide) (fun c_1 => ?_) (fun c_1 => ?_)
      · have hf := (if_pos c_1).symm.trans hf
        refine lv_iload_n hx hb dX2_heldInAll_36 rfl (lv_at hl 0 rfl) ?_
        exact W.iret (v := x1) hx hb hr (fun t9 ht hW => ⟨⟨x1, (), rfl, Option.some.inj hf, trivial⟩, hS.F ht⟩) hS.2.2 dX2_heldInAll_37
      · have hf := (if_neg c_1).symm.trans hf
        refine lv_aload_n hx hb dX2_heldInAll_19 rfl (lv_at hl 1 rfl) ?_
        refine lv_iload hx hb dX2_heldInAll_20 (lv_at hl 3 rfl) ?_
        obtain ⟨hi_2, hf⟩ := grd_some hf
        refine r_iald hx hb hT hP hx2 hi_2 dX2_heldInAll_22 ?_
        refine lv_istore (lv' := [(5, .int (μ x2 x4.toNatClampNeg)), (1, .int x1), (2, .ref (g.ad x2)), (3, .int x3), (4, .int x4)]) hx hb dX2_heldInAll_23 hl (by decide) rfl (fun ls hl => ?_)
        refine lv_iload_n hx hb dX2_heldInAll_25 rfl (lv_at hl 1 rfl) ?_
        refine lv_iload hx hb dX2_heldInAll_26 (lv_at hl 0 rfl) ?_
        refine lv_iadd hx hb dX2_heldInAll_28 ?_
        refine lv_istore_n (lv' := [(1, .int (x1 + (μ x2 x4.toNatClampNeg))), (5, .int (μ x2 x4.toNatClampNeg)), (2, .ref (g.ad x2)), (3, .int x3), (4, .int x4)]) hx hb dX2_heldInAll_29 rfl hl (by decide) rfl (fun ls hl => ?_)
        refine lv_iinc (v := x4 + 1) (lv' := [(4, .int (x4 + 1)), (1, .int (x1 + (μ x2 x4.toNatClampNeg))), (5, .int (μ x2 x4.toNatClampNeg)), (2, .ref (g.ad x2)), (3, .int x3)]) hx hb dX2_heldInAll_30 hl (k := 4) rfl rfl (by decide) rfl (fun ls hl => ?_)
        refine lv_goto (tgt := 13) hx hb dX2_heldInAll_33 (by decide) ?_
        exact ih μ (x1 + (μ x2 x4.toNatClampNeg)) x2 x3 (x4 + 1) _ _ _ hP hS (lv_sub hl [1, 3, 4, 0] rfl) hx2 hf
  have hl := lv_entry ([.ref (g.ad t)]) (n := 6) (Nat.le_of_ble_eq_true rfl)
  rw [lg_entry_eq]
  generalize (lg_sl ([.ref (g.ad t)]) ++ List.replicate (6 - (lg_sl ([.ref (g.ad t)])).length) Slot.unset).toArray = ls at hl ⊢
  have hl : lv_has ls 6 [(0, .ref (g.ad t))] := hl
  unfold f_X2_heldInAll at hf
  refine lv_iconst (v := 0) hx hb dX2_heldInAll_0 (by decide) ?_
  refine lv_istore_n (lv' := [(1, .int 0), (0, .ref (g.ad t))]) hx hb dX2_heldInAll_1 rfl hl (by decide) rfl (fun ls hl => ?_)
  refine lv_aload_n hx hb dX2_heldInAll_2 rfl (lv_at hl 1 rfl) ?_
  refine r_get hx hb hts i_X2 hown hT hP (inP ht) (fs := (fsP g t)) (obP ht) rfl 15 (by decide) q147 (fun _ h9 => h9) rfl dX2_heldInAll_3 ?_
  refine lv_astore_n (lv' := [(2, .ref (g.ad (t + 48))), (1, .int 0), (0, .ref (g.ad t))]) hx hb dX2_heldInAll_6 rfl hl (by decide) rfl (fun ls hl => ?_)
  refine lv_aload_n hx hb dX2_heldInAll_7 rfl (lv_at hl 0 rfl) ?_
  refine r_alenA hx hb hT hP (show isP _ from ht).hld dX2_heldInAll_8 ?_
  refine lv_istore_n (lv' := [(3, .int (nI (alen (t + 48)))), (2, .ref (g.ad (t + 48))), (1, .int 0), (0, .ref (g.ad t))]) hx hb dX2_heldInAll_9 rfl hl (by decide) rfl (fun ls hl => ?_)
  refine lv_iconst (v := 0) hx hb dX2_heldInAll_10 (by decide) ?_
  refine lv_istore (lv' := [(4, .int 0), (3, .int (nI (alen (t + 48)))), (2, .ref (g.ad (t + 48))), (1, .int 0), (0, .ref (g.ad t))]) hx hb dX2_heldInAll_11 hl (by decide) rfl (fun ls hl => ?_)
  exact L13 fu μ 0 (t + 48) (nI (alen (t + 48))) 0 _ _ _ hP hS (lv_sub hl [3, 2, 1, 0] rfl) (show isP _ from ht).hld hf
/-- "Sandglass$Proc" "copyFrom" "(LSandglass$Proc;)V" -/
def f_X2_copyFrom (g : Geo) (μ : Mem) (t : Nat) (o : Nat) : Option (Mem) := csQ (srf (μ o 1)) (bnd (put μ t 1 (-1)) fun μ_2 => bnd (put μ_2 t 2 (μ_2 o 2)) fun μ_3 => bnd (put μ_3 t 3 (μ_3 o 3)) fun μ_4 => bnd (put μ_4 t 4 (μ_4 o 4)) fun μ_5 => bnd (put μ_5 t 5 (μ_5 o 5)) fun μ_6 => bnd (put μ_6 t 6 (μ_6 o 6)) fun μ_7 => bnd (put μ_7 t 7 (μ_7 o 7)) fun μ_8 => bnd (put μ_8 t 8 (μ_8 o 8)) fun μ_9 => bnd (put μ_9 t 9 (μ_9 o 9)) fun μ_10 => bnd (put μ_10 t 10 (μ_10 o 10)) fun μ_11 => bnd (put μ_11 t 11 (μ_11 o 11)) fun μ_12 => bnd (put μ_12 t 12 (μ_12 o 12)) fun μ_13 => grd ((μ_13 o 13) = 0 ∨ (μ_13 o 13) = 1) (bnd (put μ_13 t 13 (μ_13 o 13)) fun μ_14 => bnO (f_X8_copyRow g μ_14 (o + 24) (t + 24)) fun μ_18 => bnO (f_X8_copyRow g μ_18 (o + 48) (t + 48)) fun μ_21 => bnO (f_X8_copyRow g μ_21 (o + 72) (t + 72)) fun μ_24 => some μ_24)) (fun o_1 => grd (114 ≤ o_1 ∧ o_1 < 114 + g.sz 2 ∧ o_1 < 122) (bnd (put μ t 1 (nI (o_1 - 114))) fun μ_25 => bnd (put μ_25 t 2 (μ_25 o 2)) fun μ_26 => bnd (put μ_26 t 3 (μ_26 o 3)) fun μ_27 => bnd (put μ_27 t 4 (μ_27 o 4)) fun μ_28 => bnd (put μ_28 t 5 (μ_28 o 5)) fun μ_29 => bnd (put μ_29 t 6 (μ_29 o 6)) fun μ_30 => bnd (put μ_30 t 7 (μ_30 o 7)) fun μ_31 => bnd (put μ_31 t 8 (μ_31 o 8)) fun μ_32 => bnd (put μ_32 t 9 (μ_32 o 9)) fun μ_33 => bnd (put μ_33 t 10 (μ_33 o 10)) fun μ_34 => bnd (put μ_34 t 11 (μ_34 o 11)) fun μ_35 => bnd (put μ_35 t 12 (μ_35 o 12)) fun μ_36 => grd ((μ_36 o 13) = 0 ∨ (μ_36 o 13) = 1) (bnd (put μ_36 t 13 (μ_36 o 13)) fun μ_37 => bnO (f_X8_copyRow g μ_37 (o + 24) (t + 24)) fun μ_41 => bnO (f_X8_copyRow g μ_41 (o + 48) (t + 48)) fun μ_44 => bnO (f_X8_copyRow g μ_44 (o + 72) (t + 72)) fun μ_47 => some μ_47)))
theorem hd_X2_copyFrom : yX2_copyFrom.cls = RX2 ∧ yX2_copyFrom.cls ≠ "java/lang/invoke/MethodHandle" ∧ yX2_copyFrom.cls ≠ "java/lang/invoke/VarHandle" ∧ (parseMethodDescriptor yX2_copyFrom.desc).map (fun d => d.parameters.length) = some 1 := by decide +kernel
set_option maxHeartbeats 4000000 in
set_option maxRecDepth 100000 in
theorem c_X2_copyFrom (l : Launch) {g : Geo} (hg : Good g) (μ : Mem) (sz : Nat) (t : Nat) (o : Nat) (ht : isP t) (ho : isP o) {r : Mem} (hf : f_X2_copyFrom g μ t o = some r) : Met l yX2_copyFrom (ws_ yX2_copyFrom cX2_copyFrom 2 (Option.none : Option Jvm.ClassFile.FieldType)) (rm_ 1 22 0 0) (Pz g [.ref (g.ad t), .ref (g.ad o)] (fun H9 => H9.size = sz ∧ Rg g μ H9)) (va_Qv (fun _ : Unit => True) (fun _ t => Rg g r t.heap) (Ag g sz)) 0 0 (Ag g sz) := by
  refine Met.ofW (cc := cX2_copyFrom) (maxL := 2) (ret := (Option.none : Option Jvm.ClassFile.FieldType)) (by decide) rfl ?_
  intro p e s m args below meth c s₁ B hml hv
  obtain ⟨rfl, hT, hsz, hP⟩ := hv
  have hx := B.exec
  have hb := B.bytes
  have hr := B.returns
  have hts : ∀ w ∈ lw_all, w.before _ s = true := fun w h => atoms_spec (ws := (ws_ yX2_copyFrom cX2_copyFrom 2 (Option.none : Option Jvm.ClassFile.FieldType))) B.pre w (List.mem_cons_of_mem _ h)
  have hown : s.vm.findClass RX2 = some m.cls := findClass_of_methodNamed B.named
  have hlocks := B.notSynchronized
  subst hsz
  have hD := fun ν => Ag.apart hg s.heap.size ν
  have hS : va_S (Ag g s.heap.size) s.heap s.heap [] := va_S.rf
  have hl := lv_entry ([.ref (g.ad t), .ref (g.ad o)]) (n := 2) (Nat.le_of_ble_eq_true rfl)
  rw [lg_entry_eq]
  generalize (lg_sl ([.ref (g.ad t), .ref (g.ad o)]) ++ List.replicate (2 - (lg_sl ([.ref (g.ad t), .ref (g.ad o)])).length) Slot.unset).toArray = ls at hl ⊢
  have hl : lv_has ls 2 [(0, .ref (g.ad t)), (1, .ref (g.ad o))] := hl
  unfold f_X2_copyFrom at hf
  refine lv_aload_n hx hb dX2_copyFrom_0 rfl (lv_at hl 0 rfl) ?_
  refine lv_aload_n hx hb dX2_copyFrom_1 rfl (lv_at hl 1 rfl) ?_
  refine r_get hx hb hts i_X2 hown hT hP (inP ho) (fs := (fsP g o)) (obP ho) rfl 1 (by decide) q113 (fun _ h9 => h9) rfl dX2_copyFrom_2 ?_
  rw [sref_srf]
  cases ho_19 : srf (μ o 1) with
  | none =>
    rw [ho_19] at hf
    dsimp only [csQ] at hf
    refine W.eq (g2 := F0 m 5 ls [.null, .ref (g.ad t)]) rfl ?_
    refine r_put hx hb hts i_X2 tyX2 tyX2_ok nmX2 hown hT hP hD hS (inP ht) (fs := (fsP g t)) (obP ht) rfl 1 (by decide) q113 (fun _ h9 => h9) rfl (ty := (.object "Sandglass$Script")) (x := (-1)) rfl rfl rfl (fun _ => set_scriptN) (Nat.le_of_ble_eq_true rfl) dX2_copyFrom_5 (fun H locs hP hS => ?_)
    obtain ⟨μ_2, eμ_2⟩ : ∃ z, put μ t 1 (-1) = z := ⟨_, rfl⟩
    rw [eμ_2] at hP
    have hf := bnd_eq hf _ eμ_2
    refine lv_aload_n hx hb dX2_copyFrom_8 rfl (lv_at hl 0 rfl) ?_
    refine lv_aload_n hx hb dX2_copyFrom_9 rfl (lv_at hl 1 rfl) ?_
    refine r_get hx hb hts i_X2 hown hT hP (inP ho) (fs := (fsP g o)) (obP ho) rfl 2 (by decide) q115 (fun _ h9 => h9) rfl dX2_copyFrom_10 ?_
    refine r_put hx hb hts i_X2 tyX2 tyX2_ok nmX2 hown hT hP hD hS (inP ht) (fs := (fsP g t)) (obP ht) rfl 2 (by decide) q115 (fun _ h9 => h9) rfl (ty := .int) (x := μ_2 o 2) rfl rfl rfl (fun _ => rfl) (Nat.le_of_ble_eq_true rfl) dX2_copyFrom_13 (fun H locs hP hS => ?_)
    obtain ⟨μ_3, eμ_3⟩ : ∃ z, put μ_2 t 2 (μ_2 o 2) = z := ⟨_, rfl⟩
    rw [eμ_3] at hP
    have hf := bnd_eq hf _ eμ_3
    refine lv_aload_n hx hb dX2_copyFrom_16 rfl (lv_at hl 0 rfl) ?_
    refine lv_aload_n hx hb dX2_copyFrom_17 rfl (lv_at hl 1 rfl) ?_
    refine r_get hx hb hts i_X2 hown hT hP (inP ho) (fs := (fsP g o)) (obP ho) rfl 3 (by decide) q118 (fun _ h9 => h9) rfl dX2_copyFrom_18 ?_
    refine r_put hx hb hts i_X2 tyX2 tyX2_ok nmX2 hown hT hP hD hS (inP ht) (fs := (fsP g t)) (obP ht) rfl 3 (by decide) q118 (fun _ h9 => h9) rfl (ty := .int) (x := μ_3 o 3) rfl rfl rfl (fun _ => rfl) (Nat.le_of_ble_eq_true rfl) dX2_copyFrom_21 (fun H locs hP hS => ?_)
    obtain ⟨μ_4, eμ_4⟩ : ∃ z, put μ_3 t 3 (μ_3 o 3) = z := ⟨_, rfl⟩
    rw [eμ_4] at hP
    have hf := bnd_eq hf _ eμ_4
    refine lv_aload_n hx hb dX2_copyFrom_24 rfl (lv_at hl 0 rfl) ?_
    refine lv_aload_n hx hb dX2_copyFrom_25 rfl (lv_at hl 1 rfl) ?_
    refine r_get hx hb hts i_X2 hown hT hP (inP ho) (fs := (fsP g o)) (obP ho) rfl 4 (by decide) q121 (fun _ h9 => h9) rfl dX2_copyFrom_26 ?_
    refine r_put hx hb hts i_X2 tyX2 tyX2_ok nmX2 hown hT hP hD hS (inP ht) (fs := (fsP g t)) (obP ht) rfl 4 (by decide) q121 (fun _ h9 => h9) rfl (ty := .int) (x := μ_4 o 4) rfl rfl rfl (fun _ => rfl) (Nat.le_of_ble_eq_true rfl) dX2_copyFrom_29 (fun H locs hP hS => ?_)
    obtain ⟨μ_5, eμ_5⟩ : ∃ z, put μ_4 t 4 (μ_4 o 4) = z := ⟨_, rfl⟩
    rw [eμ_5] at hP
    have hf := bnd_eq hf _ eμ_5
    refine lv_aload_n hx hb dX2_copyFrom_32 rfl (lv_at hl 0 rfl) ?_
    refine lv_aload_n hx hb dX2_copyFrom_33 rfl (lv_at hl 1 rfl) ?_
    refine r_get hx hb hts i_X2 hown hT hP (inP ho) (fs := (fsP g o)) (obP ho) rfl 5 (by decide) q124 (fun _ h9 => h9) rfl dX2_copyFrom_34 ?_
    refine r_put hx hb hts i_X2 tyX2 tyX2_ok nmX2 hown hT hP hD hS (inP ht) (fs := (fsP g t)) (obP ht) rfl 5 (by decide) q124 (fun _ h9 => h9) rfl (ty := .int) (x := μ_5 o 5) rfl rfl rfl (fun _ => rfl) (Nat.le_of_ble_eq_true rfl) dX2_copyFrom_37 (fun H locs hP hS => ?_)
    obtain ⟨μ_6, eμ_6⟩ : ∃ z, put μ_5 t 5 (μ_5 o 5) = z := ⟨_, rfl⟩
    rw [eμ_6] at hP
    have hf := bnd_eq hf _ eμ_6
    refine lv_aload_n hx hb dX2_copyFrom_40 rfl (lv_at hl 0 rfl) ?_
    refine lv_aload_n hx hb dX2_copyFrom_41 rfl (lv_at hl 1 rfl) ?_
    refine r_get hx hb hts i_X2 hown hT hP (inP ho) (fs := (fsP g o)) (obP ho) rfl 6 (by decide) q127 (fun _ h9 => h9) rfl dX2_copyFrom_42 ?_
    refine r_put hx hb hts i_X2 tyX2 tyX2_ok nmX2 hown hT hP hD hS (inP ht) (fs := (fsP g t)) (obP ht) rfl 6 (by decide) q127 (fun _ h9 => h9) rfl (ty := .int) (x := μ_6 o 6) rfl rfl rfl (fun _ => rfl) (Nat.le_of_ble_eq_true rfl) dX2_copyFrom_45 (fun H locs hP hS => ?_)
    obtain ⟨μ_7, eμ_7⟩ : ∃ z, put μ_6 t 6 (μ_6 o 6) = z := ⟨_, rfl⟩
    rw [eμ_7] at hP
    have hf := bnd_eq hf _ eμ_7
    refine lv_aload_n hx hb dX2_copyFrom_48 rfl (lv_at hl 0 rfl) ?_
    refine lv_aload_n hx hb dX2_copyFrom_49 rfl (lv_at hl 1 rfl) ?_
    refine r_get hx hb hts i_X2 hown hT hP (inP ho) (fs := (fsP g o)) (obP ho) rfl 7 (by decide) q130 (fun _ h9 => h9) rfl dX2_copyFrom_50 ?_
    refine r_put hx hb hts i_X2 tyX2 tyX2_ok nmX2 hown hT hP hD hS (inP ht) (fs := (fsP g t)) (obP ht) rfl 7 (by decide) q130 (fun _ h9 => h9) rfl (ty := .int) (x := μ_7 o 7) rfl rfl rfl (fun _ => rfl) (Nat.le_of_ble_eq_true rfl) dX2_copyFrom_53 (fun H locs hP hS => ?_)
    obtain ⟨μ_8, eμ_8⟩ : ∃ z, put μ_7 t 7 (μ_7 o 7) = z := ⟨_, rfl⟩
    rw [eμ_8] at hP
    have hf := bnd_eq hf _ eμ_8
    refine lv_aload_n hx hb dX2_copyFrom_56 rfl (lv_at hl 0 rfl) ?_
    refine lv_aload_n hx hb dX2_copyFrom_57 rfl (lv_at hl 1 rfl) ?_
    refine r_get hx hb hts i_X2 hown hT hP (inP ho) (fs := (fsP g o)) (obP ho) rfl 8 (by decide) q133 (fun _ h9 => h9) rfl dX2_copyFrom_58 ?_
    refine r_put hx hb hts i_X2 tyX2 tyX2_ok nmX2 hown hT hP hD hS (inP ht) (fs := (fsP g t)) (obP ht) rfl 8 (by decide) q133 (fun _ h9 => h9) rfl (ty := .int) (x := μ_8 o 8) rfl rfl rfl (fun _ => rfl) (Nat.le_of_ble_eq_true rfl) dX2_copyFrom_61 (fun H locs hP hS => ?_)
    obtain ⟨μ_9, eμ_9⟩ : ∃ z, put μ_8 t 8 (μ_8 o 8) = z := ⟨_, rfl⟩
    rw [eμ_9] at hP
    have hf := bnd_eq hf _ eμ_9
    refine lv_aload_n hx hb dX2_copyFrom_64 rfl (lv_at hl 0 rfl) ?_
    refine lv_aload_n hx hb dX2_copyFrom_65 rfl (lv_at hl 1 rfl) ?_
    refine r_get hx hb hts i_X2 hown hT hP (inP ho) (fs := (fsP g o)) (obP ho) rfl 9 (by decide) q135 (fun _ h9 => h9) rfl dX2_copyFrom_66 ?_
    refine r_put hx hb hts i_X2 tyX2 tyX2_ok nmX2 hown hT hP hD hS (inP ht) (fs := (fsP g t)) (obP ht) rfl 9 (by decide) q135 (fun _ h9 => h9) rfl (ty := .int) (x := μ_9 o 9) rfl rfl rfl (fun _ => rfl) (Nat.le_of_ble_eq_true rfl) dX2_copyFrom_69 (fun H locs hP hS => ?_)
    obtain ⟨μ_10, eμ_10⟩ : ∃ z, put μ_9 t 9 (μ_9 o 9) = z := ⟨_, rfl⟩
    rw [eμ_10] at hP
    have hf := bnd_eq hf _ eμ_10
    refine lv_aload_n hx hb dX2_copyFrom_72 rfl (lv_at hl 0 rfl) ?_
    refine lv_aload_n hx hb dX2_copyFrom_73 rfl (lv_at hl 1 rfl) ?_
    refine r_get hx hb hts i_X2 hown hT hP (inP ho) (fs := (fsP g o)) (obP ho) rfl 10 (by decide) q137 (fun _ h9 => h9) rfl dX2_copyFrom_74 ?_
    refine r_put hx hb hts i_X2 tyX2 tyX2_ok nmX2 hown hT hP hD hS (inP ht) (fs := (fsP g t)) (obP ht) rfl 10 (by decide) q137 (fun _ h9 => h9) rfl (ty := .int) (x := μ_10 o 10) rfl rfl rfl (fun _ => rfl) (Nat.le_of_ble_eq_true rfl) dX2_copyFrom_77 (fun H locs hP hS => ?_)
    obtain ⟨μ_11, eμ_11⟩ : ∃ z, put μ_10 t 10 (μ_10 o 10) = z := ⟨_, rfl⟩
    rw [eμ_11] at hP
    have hf := bnd_eq hf _ eμ_11
    refine lv_aload_n hx hb dX2_copyFrom_80 rfl (lv_at hl 0 rfl) ?_
    refine lv_aload_n hx hb dX2_copyFrom_81 rfl (lv_at hl 1 rfl) ?_
    refine r_get hx hb hts i_X2 hown hT hP (inP ho) (fs := (fsP g o)) (obP ho) rfl 11 (by decide) q139 (fun _ h9 => h9) rfl dX2_copyFrom_82 ?_
    refine r_put hx hb hts i_X2 tyX2 tyX2_ok nmX2 hown hT hP hD hS (inP ht) (fs := (fsP g t)) (obP ht) rfl 11 (by decide) q139 (fun _ h9 => h9) rfl (ty := .int) (x := μ_11 o 11) rfl rfl rfl (fun _ => rfl) (Nat.le_of_ble_eq_true rfl) dX2_copyFrom_85 (fun H locs hP hS => ?_)
    obtain ⟨μ_12, eμ_12⟩ : ∃ z, put μ_11 t 11 (μ_11 o 11) = z := ⟨_, rfl⟩
    rw [eμ_12] at hP
    have hf := bnd_eq hf _ eμ_12
    refine lv_aload_n hx hb dX2_copyFrom_88 rfl (lv_at hl 0 rfl) ?_
    refine lv_aload_n hx hb dX2_copyFrom_89 rfl (lv_at hl 1 rfl) ?_
    refine r_get hx hb hts i_X2 hown hT hP (inP ho) (fs := (fsP g o)) (obP ho) rfl 12 (by decide) q141 (fun _ h9 => h9) rfl dX2_copyFrom_90 ?_
    refine r_put hx hb hts i_X2 tyX2 tyX2_ok nmX2 hown hT hP hD hS (inP ht) (fs := (fsP g t)) (obP ht) rfl 12 (by decide) q141 (fun _ h9 => h9) rfl (ty := .int) (x := μ_12 o 12) rfl rfl rfl (fun _ => rfl) (Nat.le_of_ble_eq_true rfl) dX2_copyFrom_93 (fun H locs hP hS => ?_)
    obtain ⟨μ_13, eμ_13⟩ : ∃ z, put μ_12 t 12 (μ_12 o 12) = z := ⟨_, rfl⟩
    rw [eμ_13] at hP
    have hf := bnd_eq hf _ eμ_13
    refine lv_aload_n hx hb dX2_copyFrom_96 rfl (lv_at hl 0 rfl) ?_
    refine lv_aload_n hx hb dX2_copyFrom_97 rfl (lv_at hl 1 rfl) ?_
    refine r_get hx hb hts i_X2 hown hT hP (inP ho) (fs := (fsP g o)) (obP ho) rfl 13 (by decide) q143 (fun _ h9 => h9) rfl dX2_copyFrom_98 ?_
    obtain ⟨hb_15, hf⟩ := grd_some hf
    refine r_put hx hb hts i_X2 tyX2 tyX2_ok nmX2 hown hT hP hD hS (inP ht) (fs := (fsP g t)) (obP ht) rfl 13 (by decide) q143 (fun _ h9 => h9) rfl (ty := .boolean) (x := μ_13 o 13) rfl (nar01 hb_15) (fit01 hb_15) (fun _ => rfl) (Nat.le_of_ble_eq_true rfl) dX2_copyFrom_101 (fun H locs hP hS => ?_)
    obtain ⟨μ_14, eμ_14⟩ : ∃ z, put μ_13 t 13 (μ_13 o 13) = z := ⟨_, rfl⟩
    rw [eμ_14] at hP
    have hf := bnd_eq hf _ eμ_14
    refine lv_aload_n hx hb dX2_copyFrom_104 rfl (lv_at hl 1 rfl) ?_
    refine r_get hx hb hts i_X2 hown hT hP (inP ho) (fs := (fsP g o)) (obP ho) rfl 14 (by decide) q145 (fun _ h9 => h9) rfl dX2_copyFrom_105 ?_
    refine lv_aload_n hx hb dX2_copyFrom_108 rfl (lv_at hl 0 rfl) ?_
    refine r_get hx hb hts i_X2 hown hT hP (inP ht) (fs := (fsP g t)) (obP ht) rfl 14 (by decide) q145 (fun _ h9 => h9) rfl dX2_copyFrom_109 ?_
    obtain ⟨μ_18, hc_17, hf⟩ := bnO_some hf
    refine va_callv (va_runSN (As := [.ref (g.ad (o + 24)), .ref (g.ad (t + 24))]) (rest := []) ⟨hx, hb, hml, hown, hts⟩ (c_X8_copyRow l hg μ_14 H.size (o + 24) (t + 24) (show isP _ from ho).cnt (show isP _ from ht).cnt hc_17) ⟨va_cnB 2 hts (gd_code q775) rfl rfl rfl (hT.2 _ (nst_0)) (hts _ q37) hd_X8_copyRow.2 ⟨Nat.le_of_ble_eq_true rfl, Nat.le_of_ble_eq_true rfl⟩, hts _ q774, trivial⟩ ⟨Pz.blind, fun U hU hW => ⟨rfl, Tb.warm hW hT, by rw [hU], by rw [hU]; exact hP⟩⟩ rfl rfl hl.1 rfl (lv_room (Nat.le_of_ble_eq_true rfl)) dX2_copyFrom_112 ⟨Nat.le_of_ble_eq_true rfl, Nat.le_of_ble_eq_true rfl⟩) hS (fun q _ h => Ag.sub rfl hS q h) (fun q h => Ag.sub rfl hS q h) (fun u9 t9 H locs ht9 hvm9 hw9 hB9 hz9 hk9 hS => ?_)
    have hP : Rg g μ_18 H := by rw [← ht9]; exact hB9
    refine lv_aload_n hx hb dX2_copyFrom_115 rfl (lv_at hl 1 rfl) ?_
    refine r_get hx hb hts i_X2 hown hT hP (inP ho) (fs := (fsP g o)) (obP ho) rfl 15 (by decide) q147 (fun _ h9 => h9) rfl dX2_copyFrom_116 ?_
    refine lv_aload_n hx hb dX2_copyFrom_119 rfl (lv_at hl 0 rfl) ?_
    refine r_get hx hb hts i_X2 hown hT hP (inP ht) (fs := (fsP g t)) (obP ht) rfl 15 (by decide) q147 (fun _ h9 => h9) rfl dX2_copyFrom_120 ?_
    obtain ⟨μ_21, hc_20, hf⟩ := bnO_some hf
    refine va_callv (va_runSN (As := [.ref (g.ad (o + 48)), .ref (g.ad (t + 48))]) (rest := []) ⟨hx, hb, hml, hown, hts⟩ (c_X8_copyRow l hg μ_18 H.size (o + 48) (t + 48) (show isP _ from ho).hld (show isP _ from ht).hld hc_20) ⟨va_cnB 2 hts (gd_code q775) rfl rfl rfl (hT.2 _ (nst_0)) (hts _ q37) hd_X8_copyRow.2 ⟨Nat.le_of_ble_eq_true rfl, Nat.le_of_ble_eq_true rfl⟩, hts _ q774, trivial⟩ ⟨Pz.blind, fun U hU hW => ⟨rfl, Tb.warm hW hT, by rw [hU], by rw [hU]; exact hP⟩⟩ rfl rfl hl.1 rfl (lv_room (Nat.le_of_ble_eq_true rfl)) dX2_copyFrom_123 ⟨Nat.le_of_ble_eq_true rfl, Nat.le_of_ble_eq_true rfl⟩) hS (fun q _ h => Ag.sub rfl hS q h) (fun q h => Ag.sub rfl hS q h) (fun u9 t9 H locs ht9 hvm9 hw9 hB9 hz9 hk9 hS => ?_)
    have hP : Rg g μ_21 H := by rw [← ht9]; exact hB9
    refine lv_aload_n hx hb dX2_copyFrom_126 rfl (lv_at hl 1 rfl) ?_
    refine r_get hx hb hts i_X2 hown hT hP (inP ho) (fs := (fsP g o)) (obP ho) rfl 16 (by decide) q150 (fun _ h9 => h9) rfl dX2_copyFrom_127 ?_
    refine lv_aload_n hx hb dX2_copyFrom_130 rfl (lv_at hl 0 rfl) ?_
    refine r_get hx hb hts i_X2 hown hT hP (inP ht) (fs := (fsP g t)) (obP ht) rfl 16 (by decide) q150 (fun _ h9 => h9) rfl dX2_copyFrom_131 ?_
    obtain ⟨μ_24, hc_23, hf⟩ := bnO_some hf
    refine va_callv (va_runSN (As := [.ref (g.ad (o + 72)), .ref (g.ad (t + 72))]) (rest := []) ⟨hx, hb, hml, hown, hts⟩ (c_X8_copyRow l hg μ_21 H.size (o + 72) (t + 72) (show isP _ from ho).got (show isP _ from ht).got hc_23) ⟨va_cnB 2 hts (gd_code q775) rfl rfl rfl (hT.2 _ (nst_0)) (hts _ q37) hd_X8_copyRow.2 ⟨Nat.le_of_ble_eq_true rfl, Nat.le_of_ble_eq_true rfl⟩, hts _ q774, trivial⟩ ⟨Pz.blind, fun U hU hW => ⟨rfl, Tb.warm hW hT, by rw [hU], by rw [hU]; exact hP⟩⟩ rfl rfl hl.1 rfl (lv_room (Nat.le_of_ble_eq_true rfl)) dX2_copyFrom_134 ⟨Nat.le_of_ble_eq_true rfl, Nat.le_of_ble_eq_true rfl⟩) hS (fun q _ h => Ag.sub rfl hS q h) (fun q h => Ag.sub rfl hS q h) (fun u9 t9 H locs ht9 hvm9 hw9 hB9 hz9 hk9 hS => ?_)
    have hP : Rg g μ_24 H := by rw [← ht9]; exact hB9
    exact W.vret hx hb hr (fun t9 ht hW => ⟨⟨(), rfl, trivial, by show Rg g r t9.heap; rw [ht, ← Option.some.inj hf]; exact hP⟩, hS.F ht⟩) hS.2.2 dX2_copyFrom_137
  | some o_1 =>
    rw [ho_19] at hf
    dsimp only [csQ] at hf
    obtain ⟨ho_1, hf⟩ := grd_some hf
    refine W.eq (g2 := F0 m 5 ls [.ref (g.ad o_1), .ref (g.ad t)]) rfl ?_
    refine r_put hx hb hts i_X2 tyX2 tyX2_ok nmX2 hown hT hP hD hS (inP ht) (fs := (fsP g t)) (obP ht) rfl 1 (by decide) q113 (fun _ h9 => h9) rfl (ty := (.object "Sandglass$Script")) (x := nI (o_1 - 114)) rfl rfl rfl (fun _ => set_script ho_1) (Nat.le_of_ble_eq_true rfl) dX2_copyFrom_5 (fun H locs hP hS => ?_)
    obtain ⟨μ_25, eμ_25⟩ : ∃ z, put μ t 1 (nI (o_1 - 114)) = z := ⟨_, rfl⟩
    rw [eμ_25] at hP
    have hf := bnd_eq hf _ eμ_25
    refine lv_aload_n hx hb dX2_copyFrom_8 rfl (lv_at hl 0 rfl) ?_
    refine lv_aload_n hx hb dX2_copyFrom_9 rfl (lv_at hl 1 rfl) ?_
    refine r_get hx hb hts i_X2 hown hT hP (inP ho) (fs := (fsP g o)) (obP ho) rfl 2 (by decide) q115 (fun _ h9 => h9) rfl dX2_copyFrom_10 ?_
    refine r_put hx hb hts i_X2 tyX2 tyX2_ok nmX2 hown hT hP hD hS (inP ht) (fs := (fsP g t)) (obP ht) rfl 2 (by decide) q115 (fun _ h9 => h9) rfl (ty := .int) (x := μ_25 o 2) rfl rfl rfl (fun _ => rfl) (Nat.le_of_ble_eq_true rfl) dX2_copyFrom_13 (fun H locs hP hS => ?_)
    obtain ⟨μ_26, eμ_26⟩ : ∃ z, put μ_25 t 2 (μ_25 o 2) = z := ⟨_, rfl⟩
    rw [eμ_26] at hP
    have hf := bnd_eq hf _ eμ_26
    refine lv_aload_n hx hb dX2_copyFrom_16 rfl (lv_at hl 0 rfl) ?_
    refine lv_aload_n hx hb dX2_copyFrom_17 rfl (lv_at hl 1 rfl) ?_
    refine r_get hx hb hts i_X2 hown hT hP (inP ho) (fs := (fsP g o)) (obP ho) rfl 3 (by decide) q118 (fun _ h9 => h9) rfl dX2_copyFrom_18 ?_
    refine r_put hx hb hts i_X2 tyX2 tyX2_ok nmX2 hown hT hP hD hS (inP ht) (fs := (fsP g t)) (obP ht) rfl 3 (by decide) q118 (fun _ h9 => h9) rfl (ty := .int) (x := μ_26 o 3) rfl rfl rfl (fun _ => rfl) (Nat.le_of_ble_eq_true rfl) dX2_copyFrom_21 (fun H locs hP hS => ?_)
    obtain ⟨μ_27, eμ_27⟩ : ∃ z, put μ_26 t 3 (μ_26 o 3) = z := ⟨_, rfl⟩
    rw [eμ_27] at hP
    have hf := bnd_eq hf _ eμ_27
    refine lv_aload_n hx hb dX2_copyFrom_24 rfl (lv_at hl 0 rfl) ?_
    refine lv_aload_n hx hb dX2_copyFrom_25 rfl (lv_at hl 1 rfl) ?_
    refine r_get hx hb hts i_X2 hown hT hP (inP ho) (fs := (fsP g o)) (obP ho) rfl 4 (by decide) q121 (fun _ h9 => h9) rfl dX2_copyFrom_26 ?_
    refine r_put hx hb hts i_X2 tyX2 tyX2_ok nmX2 hown hT hP hD hS (inP ht) (fs := (fsP g t)) (obP ht) rfl 4 (by decide) q121 (fun _ h9 => h9) rfl (ty := .int) (x := μ_27 o 4) rfl rfl rfl (fun _ => rfl) (Nat.le_of_ble_eq_true rfl) dX2_copyFrom_29 (fun H locs hP hS => ?_)
    obtain ⟨μ_28, eμ_28⟩ : ∃ z, put μ_27 t 4 (μ_27 o 4) = z := ⟨_, rfl⟩
    rw [eμ_28] at hP
    have hf := bnd_eq hf _ eμ_28
    refine lv_aload_n hx hb dX2_copyFrom_32 rfl (lv_at hl 0 rfl) ?_
    refine lv_aload_n hx hb dX2_copyFrom_33 rfl (lv_at hl 1 rfl) ?_
    refine r_get hx hb hts i_X2 hown hT hP (inP ho) (fs := (fsP g o)) (obP ho) rfl 5 (by decide) q124 (fun _ h9 => h9) rfl dX2_copyFrom_34 ?_
    refine r_put hx hb hts i_X2 tyX2 tyX2_ok nmX2 hown hT hP hD hS (inP ht) (fs := (fsP g t)) (obP ht) rfl 5 (by decide) q124 (fun _ h9 => h9) rfl (ty := .int) (x := μ_28 o 5) rfl rfl rfl (fun _ => rfl) (Nat.le_of_ble_eq_true rfl) dX2_copyFrom_37 (fun H locs hP hS => ?_)
    obtain ⟨μ_29, eμ_29⟩ : ∃ z, put μ_28 t 5 (μ_28 o 5) = z := ⟨_, rfl⟩
    rw [eμ_29] at hP
    have hf := bnd_eq hf _ eμ_29
    refine lv_aload_n hx hb dX2_copyFrom_40 rfl (lv_at hl 0 rfl) ?_
    refine lv_aload_n hx hb dX2_copyFrom_41 rfl (lv_at hl 1 rfl) ?_
    refine r_get hx hb hts i_X2 hown hT hP (inP ho) (fs := (fsP g o)) (obP ho) rfl 6 (by decide) q127 (fun _ h9 => h9) rfl dX2_copyFrom_42 ?_
    refine r_put hx hb hts i_X2 tyX2 tyX2_ok nmX2 hown hT hP hD hS (inP ht) (fs := (fsP g t)) (obP ht) rfl 6 (by decide) q127 (fun _ h9 => h9) rfl (ty := .int) (x := μ_29 o 6) rfl rfl rfl (fun _ => rfl) (Nat.le_of_ble_eq_true rfl) dX2_copyFrom_45 (fun H locs hP hS => ?_)
    obtain ⟨μ_30, eμ_30⟩ : ∃ z, put μ_29 t 6 (μ_29 o 6) = z := ⟨_, rfl⟩
    rw [eμ_30] at hP
    have hf := bnd_eq hf _ eμ_30
    refine lv_aload_n hx hb dX2_copyFrom_48 rfl (lv_at hl 0 rfl) ?_
    refine lv_aload_n hx hb dX2_copyFrom_49 rfl (lv_at hl 1 rfl) ?_
    refine r_get hx hb hts i_X2 hown hT hP (inP ho) (fs := (fsP g o)) (obP ho) rfl 7 (by decide) q130 (fun _ h9 => h9) rfl dX2_copyFrom_50 ?_
    refine r_put hx hb hts i_X2 tyX2 tyX2_ok nmX2 hown hT hP hD hS (inP ht) (fs := (fsP g t)) (obP ht) rfl 7 (by decide) q130 (fun _ h9 => h9) rfl (ty := .int) (x := μ_30 o 7) rfl rfl rfl (fun _ => rfl) (Nat.le_of_ble_eq_true rfl) dX2_copyFrom_53 (fun H locs hP hS => ?_)
    obtain ⟨μ_31, eμ_31⟩ : ∃ z, put μ_30 t 7 (μ_30 o 7) = z := ⟨_, rfl⟩
    rw [eμ_31] at hP
    have hf := bnd_eq hf _ eμ_31
    refine lv_aload_n hx hb dX2_copyFrom_56 rfl (lv_at hl 0 rfl) ?_
    refine lv_aload_n hx hb dX2_copyFrom_57 rfl (lv_at hl 1 rfl) ?_
    refine r_get hx hb hts i_X2 hown hT hP (inP ho) (fs := (fsP g o)) (obP ho) rfl 8 (by decide) q133 (fun _ h9 => h9) rfl dX2_copyFrom_58 ?_
    refine r_put hx hb hts i_X2 tyX2 tyX2_ok nmX2 hown hT hP hD hS (inP ht) (fs := (fsP g t)) (obP ht) rfl 8 (by decide) q133 (fun _ h9 => h9) rfl (ty := .int) (x := μ_31 o 8) rfl rfl rfl (fun _ => rfl) (Nat.le_of_ble_eq_true rfl) dX2_copyFrom_61 (fun H locs hP hS => ?_)
    obtain ⟨μ_32, eμ_32⟩ : ∃ z, put μ_31 t 8 (μ_31 o 8) = z := ⟨_, rfl⟩
    rw [eμ_32] at hP
    have hf := bnd_eq hf _ eμ_32
    refine lv_aload_n hx hb dX2_copyFrom_64 rfl (lv_at hl 0 rfl) ?_
    refine lv_aload_n hx hb dX2_copyFrom_65 rfl (lv_at hl 1 rfl) ?_
    refine r_get hx hb hts i_X2 hown hT hP (inP ho) (fs := (fsP g o)) (obP ho) rfl 9 (by decide) q135 (fun _ h9 => h9) rfl dX2_copyFrom_66 ?_
    refine r_put hx hb hts i_X2 tyX2 tyX2_ok nmX2 hown hT hP hD hS (inP ht) (fs := (fsP g t)) (obP ht) rfl 9 (by decide) q135 (fun _ h9 => h9) rfl (ty := .int) (x := μ_32 o 9) rfl rfl rfl (fun _ => rfl) (Nat.le_of_ble_eq_true rfl) dX2_copyFrom_69 (fun H locs hP hS => ?_)
    obtain ⟨μ_33, eμ_33⟩ : ∃ z, put μ_32 t 9 (μ_32 o 9) = z := ⟨_, rfl⟩
    rw [eμ_33] at hP
    have hf := bnd_eq hf _ eμ_33
    refine lv_aload_n hx hb dX2_copyFrom_72 rfl (lv_at hl 0 rfl) ?_
    refine lv_aload_n hx hb dX2_copyFrom_73 rfl (lv_at hl 1 rfl) ?_
    refine r_get hx hb hts i_X2 hown hT hP (inP ho) (fs := (fsP g o)) (obP ho) rfl 10 (by decide) q137 (fun _ h9 => h9) rfl dX2_copyFrom_74 ?_
    refine r_put hx hb hts i_X2 tyX2 tyX2_ok nmX2 hown hT hP hD hS (inP ht) (fs := (fsP g t)) (obP ht) rfl 10 (by decide) q137 (fun _ h9 => h9) rfl (ty := .int) (x := μ_33 o 10) rfl rfl rfl (fun _ => rfl) (Nat.le_of_ble_eq_true rfl) dX2_copyFrom_77 (fun H locs hP hS => ?_)
    obtain ⟨μ_34, eμ_34⟩ : ∃ z, put μ_33 t 10 (μ_33 o 10) = z := ⟨_, rfl⟩
    rw [eμ_34] at hP
    have hf := bnd_eq hf _ eμ_34
    refine lv_aload_n hx hb dX2_copyFrom_80 rfl (lv_at hl 0 rfl) ?_
    refine lv_aload_n hx hb dX2_copyFrom_81 rfl (lv_at hl 1 rfl) ?_
    refine r_get hx hb hts i_X2 hown hT hP (inP ho) (fs := (fsP g o)) (obP ho) rfl 11 (by decide) q139 (fun _ h9 => h9) rfl dX2_copyFrom_82 ?_
    refine r_put hx hb hts i_X2 tyX2 tyX2_ok nmX2 hown hT hP hD hS (inP ht) (fs := (fsP g t)) (obP ht) rfl 11 (by decide) q139 (fun _ h9 => h9) rfl (ty := .int) (x := μ_34 o 11) rfl rfl rfl (fun _ => rfl) (Nat.le_of_ble_eq_true rfl) dX2_copyFrom_85 (fun H locs hP hS => ?_)
    obtain ⟨μ_35, eμ_35⟩ : ∃ z, put μ_34 t 11 (μ_34 o 11) = z := ⟨_, rfl⟩
    rw [eμ_35] at hP
    have hf := bnd_eq hf _ eμ_35
    refine lv_aload_n hx hb dX2_copyFrom_88 rfl (lv_at hl 0 rfl) ?_
    refine lv_aload_n hx hb dX2_copyFrom_89 rfl (lv_at hl 1 rfl) ?_
    refine r_get hx hb hts i_X2 hown hT hP (inP ho) (fs := (fsP g o)) (obP ho) rfl 12 (by decide) q141 (fun _ h9 => h9) rfl dX2_copyFrom_90 ?_
    refine r_put hx hb hts i_X2 tyX2 tyX2_ok nmX2 hown hT hP hD hS (inP ht) (fs := (fsP g t)) (obP ht) rfl 12 (by decide) q141 (fun _ h9 => h9) rfl (ty := .int) (x := μ_35 o 12) rfl rfl rfl (fun _ => rfl) (Nat.le_of_ble_eq_true rfl) dX2_copyFrom_93 (fun H locs hP hS => ?_)
    obtain ⟨μ_36, eμ_36⟩ : ∃ z, put μ_35 t 12 (μ_35 o 12) = z := ⟨_, rfl⟩
    rw [eμ_36] at hP
    have hf := bnd_eq hf _ eμ_36
    refine lv_aload_n hx hb dX2_copyFrom_96 rfl (lv_at hl 0 rfl) ?_
    refine lv_aload_n hx hb dX2_copyFrom_97 rfl (lv_at hl 1 rfl) ?_
    refine r_get hx hb hts i_X2 hown hT hP (inP ho) (fs := (fsP g o)) (obP ho) rfl 13 (by decide) q143 (fun _ h9 => h9) rfl dX2_copyFrom_98 ?_
    obtain ⟨hb_38, hf⟩ := grd_some hf
    refine r_put hx hb hts i_X2 tyX2 tyX2_ok nmX2 hown hT hP hD hS (inP ht) (fs := (fsP g t)) (obP ht) rfl 13 (by decide) q143 (fun _ h9 => h9) rfl (ty := .boolean) (x := μ_36 o 13) rfl (nar01 hb_38) (fit01 hb_38) (fun _ => rfl) (Nat.le_of_ble_eq_true rfl) dX2_copyFrom_101 (fun H locs hP hS => ?_)
    obtain ⟨μ_37, eμ_37⟩ : ∃ z, put μ_36 t 13 (μ_36 o 13) = z := ⟨_, rfl⟩
    rw [eμ_37] at hP
    have hf := bnd_eq hf _ eμ_37
    refine lv_aload_n hx hb dX2_copyFrom_104 rfl (lv_at hl 1 rfl) ?_
    refine r_get hx hb hts i_X2 hown hT hP (inP ho) (fs := (fsP g o)) (obP ho) rfl 14 (by decide) q145 (fun _ h9 => h9) rfl dX2_copyFrom_105 ?_
    refine lv_aload_n hx hb dX2_copyFrom_108 rfl (lv_at hl 0 rfl) ?_
    refine r_get hx hb hts i_X2 hown hT hP (inP ht) (fs := (fsP g t)) (obP ht) rfl 14 (by decide) q145 (fun _ h9 => h9) rfl dX2_copyFrom_109 ?_
    obtain ⟨μ_41, hc_40, hf⟩ := bnO_some hf
    refine va_callv (va_runSN (As := [.ref (g.ad (o + 24)), .ref (g.ad (t + 24))]) (rest := []) ⟨hx, hb, hml, hown, hts⟩ (c_X8_copyRow l hg μ_37 H.size (o + 24) (t + 24) (show isP _ from ho).cnt (show isP _ from ht).cnt hc_40) ⟨va_cnB 2 hts (gd_code q775) rfl rfl rfl (hT.2 _ (nst_0)) (hts _ q37) hd_X8_copyRow.2 ⟨Nat.le_of_ble_eq_true rfl, Nat.le_of_ble_eq_true rfl⟩, hts _ q774, trivial⟩ ⟨Pz.blind, fun U hU hW => ⟨rfl, Tb.warm hW hT, by rw [hU], by rw [hU]; exact hP⟩⟩ rfl rfl hl.1 rfl (lv_room (Nat.le_of_ble_eq_true rfl)) dX2_copyFrom_112 ⟨Nat.le_of_ble_eq_true rfl, Nat.le_of_ble_eq_true rfl⟩) hS (fun q _ h => Ag.sub rfl hS q h) (fun q h => Ag.sub rfl hS q h) (fun u9 t9 H locs ht9 hvm9 hw9 hB9 hz9 hk9 hS => ?_)
    have hP : Rg g μ_41 H := by rw [← ht9]; exact hB9
    refine lv_aload_n hx hb dX2_copyFrom_115 rfl (lv_at hl 1 rfl) ?_
    refine r_get hx hb hts i_X2 hown hT hP (inP ho) (fs := (fsP g o)) (obP ho) rfl 15 (by decide) q147 (fun _ h9 => h9) rfl dX2_copyFrom_116 ?_
    refine lv_aload_n hx hb dX2_copyFrom_119 rfl (lv_at hl 0 rfl) ?_
    refine r_get hx hb hts i_X2 hown hT hP (inP ht) (fs := (fsP g t)) (obP ht) rfl 15 (by decide) q147 (fun _ h9 => h9) rfl dX2_copyFrom_120 ?_
    obtain ⟨μ_44, hc_43, hf⟩ := bnO_some hf
    refine va_callv (va_runSN (As := [.ref (g.ad (o + 48)), .ref (g.ad (t + 48))]) (rest := []) ⟨hx, hb, hml, hown, hts⟩ (c_X8_copyRow l hg μ_41 H.size (o + 48) (t + 48) (show isP _ from ho).hld (show isP _ from ht).hld hc_43) ⟨va_cnB 2 hts (gd_code q775) rfl rfl rfl (hT.2 _ (nst_0)) (hts _ q37) hd_X8_copyRow.2 ⟨Nat.le_of_ble_eq_true rfl, Nat.le_of_ble_eq_true rfl⟩, hts _ q774, trivial⟩ ⟨Pz.blind, fun U hU hW => ⟨rfl, Tb.warm hW hT, by rw [hU], by rw [hU]; exact hP⟩⟩ rfl rfl hl.1 rfl (lv_room (Nat.le_of_ble_eq_true rfl)) dX2_copyFrom_123 ⟨Nat.le_of_ble_eq_true rfl, Nat.le_of_ble_eq_true rfl⟩) hS (fun q _ h => Ag.sub rfl hS q h) (fun q h => Ag.sub rfl hS q h) (fun u9 t9 H locs ht9 hvm9 hw9 hB9 hz9 hk9 hS => ?_)
    have hP : Rg g μ_44 H := by rw [← ht9]; exact hB9
    refine lv_aload_n hx hb dX2_copyFrom_126 rfl (lv_at hl 1 rfl) ?_
    refine r_get hx hb hts i_X2 hown hT hP (inP ho) (fs := (fsP g o)) (obP ho) rfl 16 (by decide) q150 (fun _ h9 => h9) rfl dX2_copyFrom_127 ?_
    refine lv_aload_n hx hb dX2_copyFrom_130 rfl (lv_at hl 0 rfl) ?_
    refine r_get hx hb hts i_X2 hown hT hP (inP ht) (fs := (fsP g t)) (obP ht) rfl 16 (by decide) q150 (fun _ h9 => h9) rfl dX2_copyFrom_131 ?_
    obtain ⟨μ_47, hc_46, hf⟩ := bnO_some hf
    refine va_callv (va_runSN (As := [.ref (g.ad (o + 72)), .ref (g.ad (t + 72))]) (rest := []) ⟨hx, hb, hml, hown, hts⟩ (c_X8_copyRow l hg μ_44 H.size (o + 72) (t + 72) (show isP _ from ho).got (show isP _ from ht).got hc_46) ⟨va_cnB 2 hts (gd_code q775) rfl rfl rfl (hT.2 _ (nst_0)) (hts _ q37) hd_X8_copyRow.2 ⟨Nat.le_of_ble_eq_true rfl, Nat.le_of_ble_eq_true rfl⟩, hts _ q774, trivial⟩ ⟨Pz.blind, fun U hU hW => ⟨rfl, Tb.warm hW hT, by rw [hU], by rw [hU]; exact hP⟩⟩ rfl rfl hl.1 rfl (lv_room (Nat.le_of_ble_eq_true rfl)) dX2_copyFrom_134 ⟨Nat.le_of_ble_eq_true rfl, Nat.le_of_ble_eq_true rfl⟩) hS (fun q _ h => Ag.sub rfl hS q h) (fun q h => Ag.sub rfl hS q h) (fun u9 t9 H locs ht9 hvm9 hw9 hB9 hz9 hk9 hS => ?_)
    have hP : Rg g μ_47 H := by rw [← ht9]; exact hB9
    exact W.vret hx hb hr (fun t9 ht hW => ⟨⟨(), rfl, trivial, by show Rg g r t9.heap; rw [ht, ← Option.some.inj hf]; exact hP⟩, hS.F ht⟩) hS.2.2 dX2_copyFrom_137
/-- "Sandglass$Resource" "copyFrom" "(LSandglass$Resource;)V" -/
def f_X3_copyFrom (g : Geo) (μ : Mem) (t : Nat) (o : Nat) : Option (Mem) := bnd (put μ t 3 (μ o 3)) fun μ_1 => bnd (put μ_1 t 4 (μ_1 o 4)) fun μ_2 => bnd (put μ_2 t 5 (μ_2 o 5)) fun μ_3 => bnd (put μ_3 t 6 (μ_3 o 6)) fun μ_4 => some μ_4
theorem hd_X3_copyFrom : yX3_copyFrom.cls = RX3 ∧ yX3_copyFrom.cls ≠ "java/lang/invoke/MethodHandle" ∧ yX3_copyFrom.cls ≠ "java/lang/invoke/VarHandle" ∧ (parseMethodDescriptor yX3_copyFrom.desc).map (fun d => d.parameters.length) = some 1 := by decide +kernel
set_option maxHeartbeats 4000000 in
set_option maxRecDepth 100000 in
theorem c_X3_copyFrom (l : Launch) {g : Geo} (hg : Good g) (μ : Mem) (sz : Nat) (t : Nat) (o : Nat) (ht : isR g t) (ho : isR g o) {r : Mem} (hf : f_X3_copyFrom g μ t o = some r) : Met l yX3_copyFrom (ws_ yX3_copyFrom cX3_copyFrom 2 (Option.none : Option Jvm.ClassFile.FieldType)) (rm_ 0 0 0 0) (Pz g [.ref (g.ad t), .ref (g.ad o)] (fun H9 => H9.size = sz ∧ Rg g μ H9)) (va_Qv (fun _ : Unit => True) (fun _ t => Rg g r t.heap) (Ag g sz)) 0 0 (Ag g sz) := by
  refine Met.ofW (cc := cX3_copyFrom) (maxL := 2) (ret := (Option.none : Option Jvm.ClassFile.FieldType)) (by decide) rfl ?_
  intro p e s m args below meth c s₁ B hml hv
  obtain ⟨rfl, hT, hsz, hP⟩ := hv
  have hx := B.exec
  have hb := B.bytes
  have hr := B.returns
  have hts : ∀ w ∈ lw_all, w.before _ s = true := fun w h => atoms_spec (ws := (ws_ yX3_copyFrom cX3_copyFrom 2 (Option.none : Option Jvm.ClassFile.FieldType))) B.pre w (List.mem_cons_of_mem _ h)
  have hown : s.vm.findClass RX3 = some m.cls := findClass_of_methodNamed B.named
  have hlocks := B.notSynchronized
  subst hsz
  have hD := fun ν => Ag.apart hg s.heap.size ν
  have hS : va_S (Ag g s.heap.size) s.heap s.heap [] := va_S.rf
  have hl := lv_entry ([.ref (g.ad t), .ref (g.ad o)]) (n := 2) (Nat.le_of_ble_eq_true rfl)
  rw [lg_entry_eq]
  generalize (lg_sl ([.ref (g.ad t), .ref (g.ad o)]) ++ List.replicate (2 - (lg_sl ([.ref (g.ad t), .ref (g.ad o)])).length) Slot.unset).toArray = ls at hl ⊢
  have hl : lv_has ls 2 [(0, .ref (g.ad t)), (1, .ref (g.ad o))] := hl
  unfold f_X3_copyFrom at hf
  refine lv_aload_n hx hb dX3_copyFrom_0 rfl (lv_at hl 0 rfl) ?_
  refine lv_aload_n hx hb dX3_copyFrom_1 rfl (lv_at hl 1 rfl) ?_
  refine r_get hx hb hts i_X3 hown hT hP (inR ho) (fs := fsR) (obR ho) rfl 3 (by decide) q954 (fun _ h9 => h9) rfl dX3_copyFrom_2 ?_
  refine r_put hx hb hts i_X3 tyX3 tyX3_ok nmX3 hown hT hP hD hS (inR ht) (fs := fsR) (obR ht) rfl 3 (by decide) q954 (fun _ h9 => h9) rfl (ty := .int) (x := μ o 3) rfl rfl rfl (fun _ => rfl) (Nat.le_of_ble_eq_true rfl) dX3_copyFrom_5 (fun H locs hP hS => ?_)
  obtain ⟨μ_1, eμ_1⟩ : ∃ z, put μ t 3 (μ o 3) = z := ⟨_, rfl⟩
  rw [eμ_1] at hP
  have hf := bnd_eq hf _ eμ_1
  refine lv_aload_n hx hb dX3_copyFrom_8 rfl (lv_at hl 0 rfl) ?_
  refine lv_aload_n hx hb dX3_copyFrom_9 rfl (lv_at hl 1 rfl) ?_
  refine r_get hx hb hts i_X3 hown hT hP (inR ho) (fs := fsR) (obR ho) rfl 4 (by decide) q957 (fun _ h9 => h9) rfl dX3_copyFrom_10 ?_
  refine r_put hx hb hts i_X3 tyX3 tyX3_ok nmX3 hown hT hP hD hS (inR ht) (fs := fsR) (obR ht) rfl 4 (by decide) q957 (fun _ h9 => h9) rfl (ty := .int) (x := μ_1 o 4) rfl rfl rfl (fun _ => rfl) (Nat.le_of_ble_eq_true rfl) dX3_copyFrom_13 (fun H locs hP hS => ?_)
  obtain ⟨μ_2, eμ_2⟩ : ∃ z, put μ_1 t 4 (μ_1 o 4) = z := ⟨_, rfl⟩
  rw [eμ_2] at hP
  have hf := bnd_eq hf _ eμ_2
  refine lv_aload_n hx hb dX3_copyFrom_16 rfl (lv_at hl 0 rfl) ?_
  refine lv_aload_n hx hb dX3_copyFrom_17 rfl (lv_at hl 1 rfl) ?_
  refine r_get hx hb hts i_X3 hown hT hP (inR ho) (fs := fsR) (obR ho) rfl 5 (by decide) q960 (fun _ h9 => h9) rfl dX3_copyFrom_18 ?_
  refine r_put hx hb hts i_X3 tyX3 tyX3_ok nmX3 hown hT hP hD hS (inR ht) (fs := fsR) (obR ht) rfl 5 (by decide) q960 (fun _ h9 => h9) rfl (ty := .int) (x := μ_2 o 5) rfl rfl rfl (fun _ => rfl) (Nat.le_of_ble_eq_true rfl) dX3_copyFrom_21 (fun H locs hP hS => ?_)
  obtain ⟨μ_3, eμ_3⟩ : ∃ z, put μ_2 t 5 (μ_2 o 5) = z := ⟨_, rfl⟩
  rw [eμ_3] at hP
  have hf := bnd_eq hf _ eμ_3
  refine lv_aload_n hx hb dX3_copyFrom_24 rfl (lv_at hl 0 rfl) ?_
  refine lv_aload_n hx hb dX3_copyFrom_25 rfl (lv_at hl 1 rfl) ?_
  refine r_get hx hb hts i_X3 hown hT hP (inR ho) (fs := fsR) (obR ho) rfl 6 (by decide) q963 (fun _ h9 => h9) rfl dX3_copyFrom_26 ?_
  refine r_put hx hb hts i_X3 tyX3 tyX3_ok nmX3 hown hT hP hD hS (inR ht) (fs := fsR) (obR ht) rfl 6 (by decide) q963 (fun _ h9 => h9) rfl (ty := .int) (x := μ_3 o 6) rfl rfl rfl (fun _ => rfl) (Nat.le_of_ble_eq_true rfl) dX3_copyFrom_29 (fun H locs hP hS => ?_)
  obtain ⟨μ_4, eμ_4⟩ : ∃ z, put μ_3 t 6 (μ_3 o 6) = z := ⟨_, rfl⟩
  rw [eμ_4] at hP
  have hf := bnd_eq hf _ eμ_4
  exact W.vret hx hb hr (fun t9 ht hW => ⟨⟨(), rfl, trivial, by show Rg g r t9.heap; rw [ht, ← Option.some.inj hf]; exact hP⟩, hS.F ht⟩) hS.2.2 dX3_copyFrom_32
/-- "Sandglass$Store" "copyFrom" "(LSandglass$Store;)V" -/
def f_X5_copyFrom (g : Geo) (μ : Mem) (t : Nat) (o : Nat) : Option (Mem) := bnd (put μ t 2 (μ o 2)) fun μ_1 => bnd (put μ_1 t 3 (μ_1 o 3)) fun μ_2 => some μ_2
theorem hd_X5_copyFrom : yX5_copyFrom.cls = RX5 ∧ yX5_copyFrom.cls ≠ "java/lang/invoke/MethodHandle" ∧ yX5_copyFrom.cls ≠ "java/lang/invoke/VarHandle" ∧ (parseMethodDescriptor yX5_copyFrom.desc).map (fun d => d.parameters.length) = some 1 := by decide +kernel
set_option maxHeartbeats 4000000 in
set_option maxRecDepth 100000 in
theorem c_X5_copyFrom (l : Launch) {g : Geo} (hg : Good g) (μ : Mem) (sz : Nat) (t : Nat) (o : Nat) (ht : isS g t) (ho : isS g o) {r : Mem} (hf : f_X5_copyFrom g μ t o = some r) : Met l yX5_copyFrom (ws_ yX5_copyFrom cX5_copyFrom 2 (Option.none : Option Jvm.ClassFile.FieldType)) (rm_ 0 0 0 0) (Pz g [.ref (g.ad t), .ref (g.ad o)] (fun H9 => H9.size = sz ∧ Rg g μ H9)) (va_Qv (fun _ : Unit => True) (fun _ t => Rg g r t.heap) (Ag g sz)) 0 0 (Ag g sz) := by
  refine Met.ofW (cc := cX5_copyFrom) (maxL := 2) (ret := (Option.none : Option Jvm.ClassFile.FieldType)) (by decide) rfl ?_
  intro p e s m args below meth c s₁ B hml hv
  obtain ⟨rfl, hT, hsz, hP⟩ := hv
  have hx := B.exec
  have hb := B.bytes
  have hr := B.returns
  have hts : ∀ w ∈ lw_all, w.before _ s = true := fun w h => atoms_spec (ws := (ws_ yX5_copyFrom cX5_copyFrom 2 (Option.none : Option Jvm.ClassFile.FieldType))) B.pre w (List.mem_cons_of_mem _ h)
  have hown : s.vm.findClass RX5 = some m.cls := findClass_of_methodNamed B.named
  have hlocks := B.notSynchronized
  subst hsz
  have hD := fun ν => Ag.apart hg s.heap.size ν
  have hS : va_S (Ag g s.heap.size) s.heap s.heap [] := va_S.rf
  have hl := lv_entry ([.ref (g.ad t), .ref (g.ad o)]) (n := 2) (Nat.le_of_ble_eq_true rfl)
  rw [lg_entry_eq]
  generalize (lg_sl ([.ref (g.ad t), .ref (g.ad o)]) ++ List.replicate (2 - (lg_sl ([.ref (g.ad t), .ref (g.ad o)])).length) Slot.unset).toArray = ls at hl ⊢
  have hl : lv_has ls 2 [(0, .ref (g.ad t)), (1, .ref (g.ad o))] := hl
  unfold f_X5_copyFrom at hf
  refine lv_aload_n hx hb dX5_copyFrom_0 rfl (lv_at hl 0 rfl) ?_
  refine lv_aload_n hx hb dX5_copyFrom_1 rfl (lv_at hl 1 rfl) ?_
  refine r_get hx hb hts i_X5 hown hT hP (inS ho) (fs := fsS) (obS ho) rfl 2 (by decide) q997 (fun _ h9 => h9) rfl dX5_copyFrom_2 ?_
  refine r_put hx hb hts i_X5 tyX5 tyX5_ok nmX5 hown hT hP hD hS (inS ht) (fs := fsS) (obS ht) rfl 2 (by decide) q997 (fun _ h9 => h9) rfl (ty := .int) (x := μ o 2) rfl rfl rfl (fun _ => rfl) (Nat.le_of_ble_eq_true rfl) dX5_copyFrom_5 (fun H locs hP hS => ?_)
  obtain ⟨μ_1, eμ_1⟩ : ∃ z, put μ t 2 (μ o 2) = z := ⟨_, rfl⟩
  rw [eμ_1] at hP
  have hf := bnd_eq hf _ eμ_1
  refine lv_aload_n hx hb dX5_copyFrom_8 rfl (lv_at hl 0 rfl) ?_
  refine lv_aload_n hx hb dX5_copyFrom_9 rfl (lv_at hl 1 rfl) ?_
  refine r_get hx hb hts i_X5 hown hT hP (inS ho) (fs := fsS) (obS ho) rfl 3 (by decide) q1000 (fun _ h9 => h9) rfl dX5_copyFrom_10 ?_
  refine r_put hx hb hts i_X5 tyX5 tyX5_ok nmX5 hown hT hP hD hS (inS ht) (fs := fsS) (obS ht) rfl 3 (by decide) q1000 (fun _ h9 => h9) rfl (ty := .int) (x := μ_1 o 3) rfl rfl rfl (fun _ => rfl) (Nat.le_of_ble_eq_true rfl) dX5_copyFrom_13 (fun H locs hP hS => ?_)
  obtain ⟨μ_2, eμ_2⟩ : ∃ z, put μ_1 t 3 (μ_1 o 3) = z := ⟨_, rfl⟩
  rw [eμ_2] at hP
  have hf := bnd_eq hf _ eμ_2
  exact W.vret hx hb hr (fun t9 ht hW => ⟨⟨(), rfl, trivial, by show Rg g r t9.heap; rw [ht, ← Option.some.inj hf]; exact hP⟩, hS.F ht⟩) hS.2.2 dX5_copyFrom_16
/-- "Sandglass$Store" "row" "(Z)I" -/
def f_X5_row (g : Geo) (μ : Mem) (t : Nat) (get : Int32) : Option (Int32) := if get = 0 then (some ((μ t 0) + 6)) else (some ((μ t 0) + 10))
theorem hd_X5_row : yX5_row.cls = RX5 ∧ yX5_row.cls ≠ "java/lang/invoke/MethodHandle" ∧ yX5_row.cls ≠ "java/lang/invoke/VarHandle" ∧ (parseMethodDescriptor yX5_row.desc).map (fun d => d.parameters.length) = some 1 := by decide +kernel
set_option maxHeartbeats 4000000 in
set_option maxRecDepth 100000 in
theorem c_X5_row (l : Launch) {g : Geo} (hg : Good g) (μ : Mem) (t : Nat) (get : Int32) (ht : isS g t) {r : Int32} (hf : f_X5_row g μ t get = some r) : Met l yX5_row (ws_ yX5_row cX5_row 2 (some .int)) (rm_ 0 0 0 0) (Pz g [.ref (g.ad t), .int get] (Rg g μ)) (va_Qi (fun (v : Int32) (_ : Unit) => v = r) (fun _ _ => True) (fun _ => False)) 0 0 (fun _ => False) := by
  refine Met.ofW (cc := cX5_row) (maxL := 2) (ret := (some .int)) (by decide) rfl ?_
  intro p e s m args below meth c s₁ B hml hv
  obtain ⟨rfl, hT, hP⟩ := hv
  have hx := B.exec
  have hb := B.bytes
  have hr := B.returns
  have hts : ∀ w ∈ lw_all, w.before _ s = true := fun w h => atoms_spec (ws := (ws_ yX5_row cX5_row 2 (some .int))) B.pre w (List.mem_cons_of_mem _ h)
  have hown : s.vm.findClass RX5 = some m.cls := findClass_of_methodNamed B.named
  have hlocks := B.notSynchronized
  have hS : va_S (fun _ => False) s.heap s.heap [] := va_S.rf
  have hl := lv_entry ([.ref (g.ad t), .int get]) (n := 2) (Nat.le_of_ble_eq_true rfl)
  rw [lg_entry_eq]
  generalize (lg_sl ([.ref (g.ad t), .int get]) ++ List.replicate (2 - (lg_sl ([.ref (g.ad t), .int get])).length) Slot.unset).toArray = ls at hl ⊢
  have hl : lv_has ls 2 [(0, .ref (g.ad t)), (1, .int get)] := hl
  unfold f_X5_row at hf
  refine lv_aload_n hx hb dX5_row_0 rfl (lv_at hl 0 rfl) ?_
  refine r_get hx hb hts i_X5 hown hT hP (inS ht) (fs := fsS) (obS ht) rfl 0 (by decide) q994 (fun _ h9 => h9) rfl dX5_row_1 ?_
  refine lv_iload_n hx hb dX5_row_4 rfl (lv_at hl 1 rfl) ?_
  refine lv_if_eq (tgt := 13) hx hb dX5_row_5 (by decide) (fun c_1 => ?_) (fun c_1 => ?_)
  · have hf := (if_pos c_1).symm.trans hf
    refine lv_bipush (v := 6) hx hb dX5_row_13 (by decide) ?_
    refine lv_iadd hx hb dX5_row_15 ?_
    exact W.iret (v := (μ t 0) + 6) hx hb hr (fun t9 ht hW => ⟨⟨(μ t 0) + 6, (), rfl, Option.some.inj hf, trivial⟩, hS.F ht⟩) hS.2.2 dX5_row_16
  · have hf := (if_neg c_1).symm.trans hf
    refine lv_bipush (v := 10) hx hb dX5_row_8 (by decide) ?_
    refine lv_goto (tgt := 15) hx hb dX5_row_10 (by decide) ?_
    refine lv_iadd hx hb dX5_row_15 ?_
    exact W.iret (v := (μ t 0) + 10) hx hb hr (fun t9 ht hW => ⟨⟨(μ t 0) + 10, (), rfl, Option.some.inj hf, trivial⟩, hS.F ht⟩) hS.2.2 dX5_row_16
/-- "Sandglass$Store" "allows" "(I)Z" -/
def f_X5_allows (g : Geo) (μ : Mem) (t : Nat) (ch : Int32) : Option (Int32) := bnO (f_X8_isIn g μ ((μ t 2) + ch) 0 (μ t 1)) fun r_1 => grd (r_1 = 0 ∨ r_1 = 1) (some r_1)
theorem hd_X5_allows : yX5_allows.cls = RX5 ∧ yX5_allows.cls ≠ "java/lang/invoke/MethodHandle" ∧ yX5_allows.cls ≠ "java/lang/invoke/VarHandle" ∧ (parseMethodDescriptor yX5_allows.desc).map (fun d => d.parameters.length) = some 1 := by decide +kernel
set_option maxHeartbeats 4000000 in
set_option maxRecDepth 100000 in
theorem c_X5_allows (l : Launch) {g : Geo} (hg : Good g) (μ : Mem) (t : Nat) (ch : Int32) (ht : isS g t) {r : Int32} (hf : f_X5_allows g μ t ch = some r) : Met l yX5_allows (ws_ yX5_allows cX5_allows 2 (some .boolean)) (rm_ 1 22 0 0) (Pz g [.ref (g.ad t), .int ch] (Rg g μ)) (va_Qi (fun (v : Int32) (_ : Unit) => v = r) (fun _ _ => True) (fun _ => False)) 0 0 (fun _ => False) := by
  refine Met.ofW (cc := cX5_allows) (maxL := 2) (ret := (some .boolean)) (by decide) rfl ?_
  intro p e s m args below meth c s₁ B hml hv
  obtain ⟨rfl, hT, hP⟩ := hv
  have hx := B.exec
  have hb := B.bytes
  have hr := B.returns
  have hts : ∀ w ∈ lw_all, w.before _ s = true := fun w h => atoms_spec (ws := (ws_ yX5_allows cX5_allows 2 (some .boolean))) B.pre w (List.mem_cons_of_mem _ h)
  have hown : s.vm.findClass RX5 = some m.cls := findClass_of_methodNamed B.named
  have hlocks := B.notSynchronized
  have hS : va_S (fun _ => False) s.heap s.heap [] := va_S.rf
  have hl := lv_entry ([.ref (g.ad t), .int ch]) (n := 2) (Nat.le_of_ble_eq_true rfl)
  rw [lg_entry_eq]
  generalize (lg_sl ([.ref (g.ad t), .int ch]) ++ List.replicate (2 - (lg_sl ([.ref (g.ad t), .int ch])).length) Slot.unset).toArray = ls at hl ⊢
  have hl : lv_has ls 2 [(0, .ref (g.ad t)), (1, .int ch)] := hl
  unfold f_X5_allows at hf
  refine lv_aload_n hx hb dX5_allows_0 rfl (lv_at hl 0 rfl) ?_
  refine r_get hx hb hts i_X5 hown hT hP (inS ht) (fs := fsS) (obS ht) rfl 2 (by decide) q997 (fun _ h9 => h9) rfl dX5_allows_1 ?_
  refine lv_iload_n hx hb dX5_allows_4 rfl (lv_at hl 1 rfl) ?_
  refine lv_iadd hx hb dX5_allows_5 ?_
  refine lv_iconst (v := 0) hx hb dX5_allows_6 (by decide) ?_
  refine lv_aload_n hx hb dX5_allows_7 rfl (lv_at hl 0 rfl) ?_
  refine r_get hx hb hts i_X5 hown hT hP (inS ht) (fs := fsS) (obS ht) rfl 1 (by decide) q995 (fun _ h9 => h9) rfl dX5_allows_8 ?_
  obtain ⟨r_1, hc_2, hf⟩ := bnO_some hf
  refine va_calli (va_runSN (As := [.int ((μ t 2) + ch), .int 0, .int (μ t 1)]) (rest := []) ⟨hx, hb, hml, hown, hts⟩ (c_X8_isIn l hg μ ((μ t 2) + ch) 0 (μ t 1)  hc_2) ⟨va_cnB 3 hts (gd_code q244) rfl rfl rfl (hT.2 _ (nst_2)) (hts _ q37) hd_X8_isIn.2 ⟨Nat.le_of_ble_eq_true rfl, Nat.le_of_ble_eq_true rfl⟩, hts _ q243, trivial⟩ ⟨Pz.blind, fun U hU hW => ⟨rfl, Tb.warm hW hT, by rw [hU]; exact hP⟩⟩ rfl rfl hl.1 rfl (lv_room (Nat.le_of_ble_eq_true rfl)) dX5_allows_11 ⟨Nat.le_of_ble_eq_true rfl, Nat.le_of_ble_eq_true rfl⟩) hS (fun q _ h => h.elim) (fun q h => h.elim) (fun v9 u9 t9 H locs ht9 hvm9 hw9 hB9 hz9 hk9 hS => ?_)
  have hP := Rg.keep hP (fun q h => hk9 q h id)
  rw [hw9]
  obtain ⟨hb_3, hf⟩ := grd_some hf
  exact W.zret (v := r_1) (ty := .boolean) hx hb hr (nar01 hb_3) (fun t9 ht hW => ⟨⟨r_1, (), rfl, Option.some.inj hf, trivial⟩, hS.F ht⟩) hS.2.2 dX5_allows_14
/-- "Sandglass$Script" "instructionAt" "(I)LSandglass$Instruction;" -/
def f_X4_instructionAt (g : Geo) (μ : Mem) (t : Nat) (pl : Int32) : Option ((Option Nat)) := if pl < 0 then (some (none)) else (if (nI (g.sz (t - 104))) ≤ pl then (some (none)) else (grd (¬ (pl < 0 ∨ g.sz (t - 104) ≤ pl.toNatClampNeg)) (bnd (138 + 16 * (t - 114) + pl.toNatClampNeg) fun k_5 => grd (138 ≤ k_5 ∧ k_5 < 266 ∧ (k_5 - 138) / 16 < g.sz 2 ∧ (k_5 - 138) % 16 < g.sz (10 + (k_5 - 138) / 16)) (some (some k_5)))))
theorem hd_X4_instructionAt : yX4_instructionAt.cls = RX4 ∧ yX4_instructionAt.cls ≠ "java/lang/invoke/MethodHandle" ∧ yX4_instructionAt.cls ≠ "java/lang/invoke/VarHandle" ∧ (parseMethodDescriptor yX4_instructionAt.desc).map (fun d => d.parameters.length) = some 1 := by decide +kernel
set_option maxHeartbeats 4000000 in
set_option maxRecDepth 100000 in
theorem c_X4_instructionAt (l : Launch) {g : Geo} (hg : Good g) (μ : Mem) (t : Nat) (pl : Int32) (ht : isC g t) {r : (Option Nat)} (hf : f_X4_instructionAt g μ t pl = some r) : Met l yX4_instructionAt (ws_ yX4_instructionAt cX4_instructionAt 2 (some (.object "Sandglass$Instruction"))) (rm_ 3 64 0 0) (Pz g [.ref (g.ad t), .int pl] (Rg g μ)) (va_Qq (fun (v : Option Nat) (_ : Unit) => v = r.map g.ad) (fun _ _ => True) (fun _ => False)) 0 0 (fun _ => False) := by
  refine Met.ofW (cc := cX4_instructionAt) (maxL := 2) (ret := (some (.object "Sandglass$Instruction"))) (by decide) rfl ?_
  intro p e s m args below meth c s₁ B hml hv
  obtain ⟨rfl, hT, hP⟩ := hv
  have hx := B.exec
  have hb := B.bytes
  have hr := B.returns
  have hts : ∀ w ∈ lw_all, w.before _ s = true := fun w h => atoms_spec (ws := (ws_ yX4_instructionAt cX4_instructionAt 2 (some (.object "Sandglass$Instruction")))) B.pre w (List.mem_cons_of_mem _ h)
  have hown : s.vm.findClass RX4 = some m.cls := findClass_of_methodNamed B.named
  have hlocks := B.notSynchronized
  have hS : va_S (fun _ => False) s.heap s.heap [] := va_S.rf
  have hl := lv_entry ([.ref (g.ad t), .int pl]) (n := 2) (Nat.le_of_ble_eq_true rfl)
  rw [lg_entry_eq]
  generalize (lg_sl ([.ref (g.ad t), .int pl]) ++ List.replicate (2 - (lg_sl ([.ref (g.ad t), .int pl])).length) Slot.unset).toArray = ls at hl ⊢
  have hl : lv_has ls 2 [(0, .ref (g.ad t)), (1, .int pl)] := hl
  unfold f_X4_instructionAt at hf
  refine lv_iload_n hx hb dX4_instructionAt_0 rfl (lv_at hl 1 rfl) ?_
  refine lv_if_lt (tgt := 29) hx hb dX4_instructionAt_1 (by decide) (fun c_1 => ?_) (fun c_1 => ?_)
  · have hf := (if_pos c_1).symm.trans hf
    refine lv_null hx hb dX4_instructionAt_29 ?_
    exact W.aret (v := .null) (rt := .object "Sandglass$Instruction") hx hb hr (Or.inl ⟨_, rfl⟩) (Or.inl rfl) (fun t9 ht hW => ⟨⟨none, (), rfl, by rw [← Option.some.inj hf]; rfl, trivial⟩, hS.F ht⟩) hS.2.2 dX4_instructionAt_30
  · have hf := (if_neg c_1).symm.trans hf
    refine lv_iload_n hx hb dX4_instructionAt_4 rfl (lv_at hl 1 rfl) ?_
    refine lv_aload_n hx hb dX4_instructionAt_5 rfl (lv_at hl 0 rfl) ?_
    refine r_get hx hb hts i_X4 hown hT hP (inC ht) (fs := (fsC g t)) (obC ht) rfl 0 (by decide) q1077 (fun _ h9 => h9) rfl dX4_instructionAt_6 ?_
    refine va_calli (va_runV (As := []) (rest := [.int pl]) ⟨hx, hb, hml, hown, hts⟩ (c_Jx4a65c_size_8abf5 l hg μ (inNL ht) (szN ht)) (cwV 0 hts (gd_V q419 q326 q327 q40 q328) rfl rfl rfl hd_Jx4a65c_size_8abf5 ⟨Nat.le_of_ble_eq_true rfl, Nat.le_of_ble_eq_true rfl⟩) ⟨Pz.blind, r_recv hT hP (inNL ht) (fs := fun _ => [.int 0, .ref (g.ad (t + 16)), .int (nI (g.sz (t - 104)))]) (szN ht) rfl, fun U hU hW => ⟨rfl, Tb.warm hW hT, by rw [hU]; exact hP⟩⟩ rfl rfl hl.1 rfl (lv_room (Nat.le_of_ble_eq_true rfl)) dX4_instructionAt_9 ⟨Nat.le_of_ble_eq_true rfl, Nat.le_of_ble_eq_true rfl⟩) hS (fun q _ h => h.elim) (fun q h => h.elim) (fun v9 u9 t9 H locs ht9 hvm9 hw9 hB9 hz9 hk9 hS => ?_)
    have hP := Rg.keep hP (fun q h => hk9 q h id)
    rw [hw9]
    refine lv_icmp_ge (tgt := 29) hx hb dX4_instructionAt_12 (by decide) (fun c_2 => ?_) (fun c_2 => ?_)
    · have hf := (if_pos c_2).symm.trans hf
      refine lv_null hx hb dX4_instructionAt_29 ?_
      exact W.aret (v := .null) (rt := .object "Sandglass$Instruction") hx hb hr (Or.inl ⟨_, rfl⟩) (Or.inl rfl) (fun t9 ht hW => ⟨⟨none, (), rfl, by rw [← Option.some.inj hf]; rfl, trivial⟩, hS.F ht⟩) hS.2.2 dX4_instructionAt_30
    · have hf := (if_neg c_2).symm.trans hf
      refine lv_aload_n hx hb dX4_instructionAt_15 rfl (lv_at hl 0 rfl) ?_
      refine r_get hx hb hts i_X4 hown hT hP (inC ht) (fs := (fsC g t)) (obC ht) rfl 0 (by decide) q1077 (fun _ h9 => h9) rfl dX4_instructionAt_16 ?_
      refine lv_iload_n hx hb dX4_instructionAt_19 rfl (lv_at hl 1 rfl) ?_
      obtain ⟨hi_3, hf⟩ := grd_some hf
      have hj_4 : pl.toNatClampNeg < g.sz (t - 104) := Nat.not_le.mp (fun z => hi_3 (Or.inr z))
      refine va_callq (va_runV (As := [.int pl]) (rest := []) ⟨hx, hb, hml, hown, hts⟩ (c_Jx4a65c_get_915e3 l hg μ (lsN hg ht (Nat.lt_of_le_of_lt (Nat.zero_le _) hj_4)) (nI_self (fun z => hi_3 (Or.inl z))) hj_4) (cwV 1 hts (gd_V q420 q330 q331 q40 q332) rfl rfl rfl hd_Jx4a65c_get_915e3 ⟨Nat.le_of_ble_eq_true rfl, Nat.le_of_ble_eq_true rfl⟩) ⟨Pz.blind, r_recv hT hP (inNL ht) (fs := fun _ => [.int 0, .ref (g.ad (t + 16)), .int (nI (g.sz (t - 104)))]) (szN ht) rfl, fun U hU hW => ⟨rfl, Tb.warm hW hT, by rw [hU]; exact hP⟩⟩ rfl rfl hl.1 rfl (lv_room (Nat.le_of_ble_eq_true rfl)) dX4_instructionAt_20 ⟨Nat.le_of_ble_eq_true rfl, Nat.le_of_ble_eq_true rfl⟩) hS (fun q _ h => h.elim) (fun q h => h.elim) (fun v9 u9 t9 H locs ht9 hvm9 hw9 hB9 hz9 hk9 hS => ?_)
      have hP := Rg.keep hP (fun q h => hk9 q h id)
      rw [hw9, fnL_in hj_4]
      refine W.eq (g2 := F0 m 23 ls (.ref (g.ad (138 + 16 * (t - 114) + pl.toNatClampNeg)) :: [])) rfl ?_
      obtain ⟨k_5, ek_5⟩ : ∃ z, 138 + 16 * (t - 114) + pl.toNatClampNeg = z := ⟨_, rfl⟩
      rw [ek_5]
      have hf := bnd_eq hf _ ek_5
      obtain ⟨hk_5, hf⟩ := grd_some hf
      refine r_cast hx hb hts hown hT hP (inN hk_5) (fs := fsS) (obN hk_5) rfl q421 dX4_instructionAt_23 ?_
      refine lv_goto (tgt := 30) hx hb dX4_instructionAt_26 (by decide) ?_
      exact W.aret (v := .ref (g.ad k_5)) (rt := .object "Sandglass$Instruction") hx hb hr (Or.inl ⟨_, rfl⟩) (Or.inr ⟨_, rfl⟩) (fun t9 ht hW => ⟨⟨(some (g.ad k_5)), (), rfl, by rw [← Option.some.inj hf]; rfl, trivial⟩, hS.F ht⟩) hS.2.2 dX4_instructionAt_30
/-- "Sandglass$Proc" "nextInstruction" "()LSandglass$Instruction;" -/
def f_X2_nextInstruction (g : Geo) (μ : Mem) (t : Nat) : Option ((Option Nat)) := csQ (srf (μ t 1)) (some (none)) (fun o_1 => grd (114 ≤ o_1 ∧ o_1 < 114 + g.sz 2 ∧ o_1 < 122) (bnO (f_X4_instructionAt g μ o_1 (μ t 3)) fun r_2 => csQ r_2 (some (none)) (fun o_4 => grd (138 ≤ o_4 ∧ o_4 < 266 ∧ (o_4 - 138) / 16 < g.sz 2 ∧ (o_4 - 138) % 16 < g.sz (10 + (o_4 - 138) / 16)) (some (some o_4)))))
theorem hd_X2_nextInstruction : yX2_nextInstruction.cls = RX2 ∧ yX2_nextInstruction.cls ≠ "java/lang/invoke/MethodHandle" ∧ yX2_nextInstruction.cls ≠ "java/lang/invoke/VarHandle" ∧ (parseMethodDescriptor yX2_nextInstruction.desc).map (fun d => d.parameters.length) = some 0 := by decide +kernel
set_option maxHeartbeats 4000000 in
set_option maxRecDepth 100000 in
theorem c_X2_nextInstruction (l : Launch) {g : Geo} (hg : Good g) (μ : Mem) (t : Nat) (ht : isP t) {r : (Option Nat)} (hf : f_X2_nextInstruction g μ t = some r) : Met l yX2_nextInstruction (ws_ yX2_nextInstruction cX2_nextInstruction 1 (some (.object "Sandglass$Instruction"))) (rm_ 4 85 0 0) (Pz g [.ref (g.ad t)] (Rg g μ)) (va_Qq (fun (v : Option Nat) (_ : Unit) => v = r.map g.ad) (fun _ _ => True) (fun _ => False)) 0 0 (fun _ => False) := by
  refine Met.ofW (cc := cX2_nextInstruction) (maxL := 1) (ret := (some (.object "Sandglass$Instruction"))) (by decide) rfl ?_
  intro p e s m args below meth c s₁ B hml hv
  obtain ⟨rfl, hT, hP⟩ := hv
  have hx := B.exec
  have hb := B.bytes
  have hr := B.returns
  have hts : ∀ w ∈ lw_all, w.before _ s = true := fun w h => atoms_spec (ws := (ws_ yX2_nextInstruction cX2_nextInstruction 1 (some (.object "Sandglass$Instruction")))) B.pre w (List.mem_cons_of_mem _ h)
  have hown : s.vm.findClass RX2 = some m.cls := findClass_of_methodNamed B.named
  have hlocks := B.notSynchronized
  have hS : va_S (fun _ => False) s.heap s.heap [] := va_S.rf
  have hl := lv_entry ([.ref (g.ad t)]) (n := 1) (Nat.le_of_ble_eq_true rfl)
  rw [lg_entry_eq]
  generalize (lg_sl ([.ref (g.ad t)]) ++ List.replicate (1 - (lg_sl ([.ref (g.ad t)])).length) Slot.unset).toArray = ls at hl ⊢
  have hl : lv_has ls 1 [(0, .ref (g.ad t))] := hl
  unfold f_X2_nextInstruction at hf
  refine lv_aload_n hx hb dX2_nextInstruction_0 rfl (lv_at hl 0 rfl) ?_
  refine r_get hx hb hts i_X2 hown hT hP (inP ht) (fs := (fsP g t)) (obP ht) rfl 1 (by decide) q113 (fun _ h9 => h9) rfl dX2_nextInstruction_1 ?_
  rw [sref_srf]
  cases ho_19 : srf (μ t 1) with
  | none =>
    rw [ho_19] at hf
    dsimp only [csQ] at hf
    refine W.eq (g2 := F0 m 4 ls [.null]) rfl ?_
    refine lv_ifnonnullN hx hb dX2_nextInstruction_4 ?_
    refine lv_null hx hb dX2_nextInstruction_7 ?_
    refine lv_goto (tgt := 22) hx hb dX2_nextInstruction_8 (by decide) ?_
    exact W.aret (v := .null) (rt := .object "Sandglass$Instruction") hx hb hr (Or.inl ⟨_, rfl⟩) (Or.inl rfl) (fun t9 ht hW => ⟨⟨none, (), rfl, by rw [← Option.some.inj hf]; rfl, trivial⟩, hS.F ht⟩) hS.2.2 dX2_nextInstruction_22
  | some o_1 =>
    rw [ho_19] at hf
    dsimp only [csQ] at hf
    obtain ⟨ho_1, hf⟩ := grd_some hf
    refine W.eq (g2 := F0 m 4 ls [.ref (g.ad o_1)]) rfl ?_
    refine lv_ifnonnull (tgt := 11) hx hb dX2_nextInstruction_4 (by decide) ?_
    refine lv_aload_n hx hb dX2_nextInstruction_11 rfl (lv_at hl 0 rfl) ?_
    refine r_get hx hb hts i_X2 hown hT hP (inP ht) (fs := (fsP g t)) (obP ht) rfl 1 (by decide) q113 (fun _ h9 => h9) rfl dX2_nextInstruction_12 ?_
    rw [sref_srf, ho_19]
    refine W.eq (g2 := F0 m 15 ls [.ref (g.ad o_1)]) rfl ?_
    refine lv_aload_n hx hb dX2_nextInstruction_15 rfl (lv_at hl 0 rfl) ?_
    refine r_get hx hb hts i_X2 hown hT hP (inP ht) (fs := (fsP g t)) (obP ht) rfl 3 (by decide) q118 (fun _ h9 => h9) rfl dX2_nextInstruction_16 ?_
    obtain ⟨r_2, hc_3, hf⟩ := bnO_some hf
    refine va_callq (va_runV (As := [.int (μ t 3)]) (rest := []) ⟨hx, hb, hml, hown, hts⟩ (c_X4_instructionAt l hg μ o_1 (μ t 3) ho_1 hc_3) (cwV 1 hts (gd_V q415 q416 q417 q55 q418) rfl rfl rfl hd_X4_instructionAt ⟨Nat.le_of_ble_eq_true rfl, Nat.le_of_ble_eq_true rfl⟩) ⟨Pz.blind, r_recv hT hP (inC ho_1) (fs := (fsC g o_1)) (obC ho_1) rfl, fun U hU hW => ⟨rfl, Tb.warm hW hT, by rw [hU]; exact hP⟩⟩ rfl rfl hl.1 rfl (lv_room (Nat.le_of_ble_eq_true rfl)) dX2_nextInstruction_19 ⟨Nat.le_of_ble_eq_true rfl, Nat.le_of_ble_eq_true rfl⟩) hS (fun q _ h => h.elim) (fun q h => h.elim) (fun v9 u9 t9 H locs ht9 hvm9 hw9 hB9 hz9 hk9 hS => ?_)
    have hP := Rg.keep hP (fun q h => hk9 q h id)
    rw [hw9]
    cases r_2 with
    | none =>
      dsimp only [csQ] at hf
      refine W.eq (g2 := F0 m 22 ls [.null]) rfl ?_
      exact W.aret (v := .null) (rt := .object "Sandglass$Instruction") hx hb hr (Or.inl ⟨_, rfl⟩) (Or.inl rfl) (fun t9 ht hW => ⟨⟨none, (), rfl, by rw [← Option.some.inj hf]; rfl, trivial⟩, hS.F ht⟩) hS.2.2 dX2_nextInstruction_22
    | some o_4 =>
      dsimp only [csQ] at hf
      obtain ⟨ho_4, hf⟩ := grd_some hf
      refine W.eq (g2 := F0 m 22 ls [.ref (g.ad o_4)]) rfl ?_
      exact W.aret (v := .ref (g.ad o_4)) (rt := .object "Sandglass$Instruction") hx hb hr (Or.inl ⟨_, rfl⟩) (Or.inr ⟨_, rfl⟩) (fun t9 ht hW => ⟨⟨(some (g.ad o_4)), (), rfl, by rw [← Option.some.inj hf]; rfl, trivial⟩, hS.F ht⟩) hS.2.2 dX2_nextInstruction_22
/-- "Sandglass$World" "resource" "(I)LSandglass$Resource;" -/
def f_X7_resource (g : Geo) (μ : Mem) (nu : Int32) : Option ((Option Nat)) := if nu < 0 then (some (none)) else (if (nI (g.sz 0)) ≤ nu then (some (none)) else (grd (¬ (nu < 0 ∨ g.sz 0 ≤ nu.toNatClampNeg)) (bnd (102 + nu.toNatClampNeg) fun k_5 => grd (102 ≤ k_5 ∧ k_5 < 102 + g.sz 0 ∧ k_5 < 108) (some (some k_5)))))
theorem hd_X7_resource : yX7_resource.cls = RX7 ∧ yX7_resource.cls ≠ "java/lang/invoke/MethodHandle" ∧ yX7_resource.cls ≠ "java/lang/invoke/VarHandle" ∧ (parseMethodDescriptor yX7_resource.desc).map (fun d => d.parameters.length) = some 1 := by decide +kernel
set_option maxHeartbeats 4000000 in
set_option maxRecDepth 100000 in
theorem c_X7_resource (l : Launch) {g : Geo} (hg : Good g) (μ : Mem) (nu : Int32) {r : (Option Nat)} (hf : f_X7_resource g μ nu = some r) : Met l yX7_resource (ws_ yX7_resource cX7_resource 2 (some (.object "Sandglass$Resource"))) (rm_ 3 64 0 0) (Pz g [.ref (g.ad 0), .int nu] (Rg g μ)) (va_Qq (fun (v : Option Nat) (_ : Unit) => v = r.map g.ad) (fun _ _ => True) (fun _ => False)) 0 0 (fun _ => False) := by
  refine Met.ofW (cc := cX7_resource) (maxL := 2) (ret := (some (.object "Sandglass$Resource"))) (by decide) rfl ?_
  intro p e s m args below meth c s₁ B hml hv
  obtain ⟨rfl, hT, hP⟩ := hv
  have hx := B.exec
  have hb := B.bytes
  have hr := B.returns
  have hts : ∀ w ∈ lw_all, w.before _ s = true := fun w h => atoms_spec (ws := (ws_ yX7_resource cX7_resource 2 (some (.object "Sandglass$Resource")))) B.pre w (List.mem_cons_of_mem _ h)
  have hown : s.vm.findClass RX7 = some m.cls := findClass_of_methodNamed B.named
  have hlocks := B.notSynchronized
  have hS : va_S (fun _ => False) s.heap s.heap [] := va_S.rf
  have hl := lv_entry ([.ref (g.ad 0), .int nu]) (n := 2) (Nat.le_of_ble_eq_true rfl)
  rw [lg_entry_eq]
  generalize (lg_sl ([.ref (g.ad 0), .int nu]) ++ List.replicate (2 - (lg_sl ([.ref (g.ad 0), .int nu])).length) Slot.unset).toArray = ls at hl ⊢
  have hl : lv_has ls 2 [(0, .ref (g.ad 0)), (1, .int nu)] := hl
  unfold f_X7_resource at hf
  refine lv_iload_n hx hb dX7_resource_0 rfl (lv_at hl 1 rfl) ?_
  refine lv_if_lt (tgt := 29) hx hb dX7_resource_1 (by decide) (fun c_1 => ?_) (fun c_1 => ?_)
  · have hf := (if_pos c_1).symm.trans hf
    refine lv_null hx hb dX7_resource_29 ?_
    exact W.aret (v := .null) (rt := .object "Sandglass$Resource") hx hb hr (Or.inl ⟨_, rfl⟩) (Or.inl rfl) (fun t9 ht hW => ⟨⟨none, (), rfl, by rw [← Option.some.inj hf]; rfl, trivial⟩, hS.F ht⟩) hS.2.2 dX7_resource_30
  · have hf := (if_neg c_1).symm.trans hf
    refine lv_iload_n hx hb dX7_resource_4 rfl (lv_at hl 1 rfl) ?_
    refine lv_aload_n hx hb dX7_resource_5 rfl (lv_at hl 0 rfl) ?_
    refine r_get hx hb hts i_X7 hown hT hP inW (fs := (fsW g)) (obW g) rfl 2 (by decide) q190 (fun _ h9 => h9) rfl dX7_resource_6 ?_
    refine va_calli (va_runV (As := []) (rest := [.int nu]) ⟨hx, hb, hml, hown, hts⟩ (c_Jx4a65c_size_8abf5 l hg μ in98 (szR g)) (cwV 0 hts (gd_V q325 q326 q327 q40 q328) rfl rfl rfl hd_Jx4a65c_size_8abf5 ⟨Nat.le_of_ble_eq_true rfl, Nat.le_of_ble_eq_true rfl⟩) ⟨Pz.blind, r_recv hT hP in98 (fs := fun _ => [.int 0, .ref (g.ad (99)), .int (nI (g.sz 0))]) (szR g) rfl, fun U hU hW => ⟨rfl, Tb.warm hW hT, by rw [hU]; exact hP⟩⟩ rfl rfl hl.1 rfl (lv_room (Nat.le_of_ble_eq_true rfl)) dX7_resource_9 ⟨Nat.le_of_ble_eq_true rfl, Nat.le_of_ble_eq_true rfl⟩) hS (fun q _ h => h.elim) (fun q h => h.elim) (fun v9 u9 t9 H locs ht9 hvm9 hw9 hB9 hz9 hk9 hS => ?_)
    have hP := Rg.keep hP (fun q h => hk9 q h id)
    rw [hw9]
    refine lv_icmp_ge (tgt := 29) hx hb dX7_resource_12 (by decide) (fun c_2 => ?_) (fun c_2 => ?_)
    · have hf := (if_pos c_2).symm.trans hf
      refine lv_null hx hb dX7_resource_29 ?_
      exact W.aret (v := .null) (rt := .object "Sandglass$Resource") hx hb hr (Or.inl ⟨_, rfl⟩) (Or.inl rfl) (fun t9 ht hW => ⟨⟨none, (), rfl, by rw [← Option.some.inj hf]; rfl, trivial⟩, hS.F ht⟩) hS.2.2 dX7_resource_30
    · have hf := (if_neg c_2).symm.trans hf
      refine lv_aload_n hx hb dX7_resource_15 rfl (lv_at hl 0 rfl) ?_
      refine r_get hx hb hts i_X7 hown hT hP inW (fs := (fsW g)) (obW g) rfl 2 (by decide) q190 (fun _ h9 => h9) rfl dX7_resource_16 ?_
      refine lv_iload_n hx hb dX7_resource_19 rfl (lv_at hl 1 rfl) ?_
      obtain ⟨hi_3, hf⟩ := grd_some hf
      have hj_4 : nu.toNatClampNeg < g.sz 0 := Nat.not_le.mp (fun z => hi_3 (Or.inr z))
      refine va_callq (va_runV (As := [.int nu]) (rest := []) ⟨hx, hb, hml, hown, hts⟩ (c_Jx4a65c_get_915e3 l hg μ (lsR hg) (nI_self (fun z => hi_3 (Or.inl z))) hj_4) (cwV 1 hts (gd_V q329 q330 q331 q40 q332) rfl rfl rfl hd_Jx4a65c_get_915e3 ⟨Nat.le_of_ble_eq_true rfl, Nat.le_of_ble_eq_true rfl⟩) ⟨Pz.blind, r_recv hT hP in98 (fs := fun _ => [.int 0, .ref (g.ad (99)), .int (nI (g.sz 0))]) (szR g) rfl, fun U hU hW => ⟨rfl, Tb.warm hW hT, by rw [hU]; exact hP⟩⟩ rfl rfl hl.1 rfl (lv_room (Nat.le_of_ble_eq_true rfl)) dX7_resource_20 ⟨Nat.le_of_ble_eq_true rfl, Nat.le_of_ble_eq_true rfl⟩) hS (fun q _ h => h.elim) (fun q h => h.elim) (fun v9 u9 t9 H locs ht9 hvm9 hw9 hB9 hz9 hk9 hS => ?_)
      have hP := Rg.keep hP (fun q h => hk9 q h id)
      rw [hw9, fnL_in hj_4]
      refine W.eq (g2 := F0 m 23 ls (.ref (g.ad (102 + nu.toNatClampNeg)) :: [])) rfl ?_
      obtain ⟨k_5, ek_5⟩ : ∃ z, 102 + nu.toNatClampNeg = z := ⟨_, rfl⟩
      rw [ek_5]
      have hf := bnd_eq hf _ ek_5
      obtain ⟨hk_5, hf⟩ := grd_some hf
      refine r_cast hx hb hts hown hT hP (inR hk_5) (fs := fsR) (obR hk_5) rfl q405 dX7_resource_23 ?_
      refine lv_goto (tgt := 30) hx hb dX7_resource_26 (by decide) ?_
      exact W.aret (v := .ref (g.ad k_5)) (rt := .object "Sandglass$Resource") hx hb hr (Or.inl ⟨_, rfl⟩) (Or.inr ⟨_, rfl⟩) (fun t9 ht hW => ⟨⟨(some (g.ad k_5)), (), rfl, by rw [← Option.some.inj hf]; rfl, trivial⟩, hS.F ht⟩) hS.2.2 dX7_resource_30
/-- "Sandglass$World" "store" "(I)LSandglass$Store;" -/
def f_X7_store (g : Geo) (μ : Mem) (nu : Int32) : Option ((Option Nat)) := if nu < 0 then (some (none)) else (if (nI (g.sz 1)) ≤ nu then (some (none)) else (grd (¬ (nu < 0 ∨ g.sz 1 ≤ nu.toNatClampNeg)) (bnd (108 + nu.toNatClampNeg) fun k_5 => grd (108 ≤ k_5 ∧ k_5 < 108 + g.sz 1 ∧ k_5 < 112) (some (some k_5)))))
theorem hd_X7_store : yX7_store.cls = RX7 ∧ yX7_store.cls ≠ "java/lang/invoke/MethodHandle" ∧ yX7_store.cls ≠ "java/lang/invoke/VarHandle" ∧ (parseMethodDescriptor yX7_store.desc).map (fun d => d.parameters.length) = some 1 := by decide +kernel
set_option maxHeartbeats 4000000 in
set_option maxRecDepth 100000 in
theorem c_X7_store (l : Launch) {g : Geo} (hg : Good g) (μ : Mem) (nu : Int32) {r : (Option Nat)} (hf : f_X7_store g μ nu = some r) : Met l yX7_store (ws_ yX7_store cX7_store 2 (some (.object "Sandglass$Store"))) (rm_ 3 64 0 0) (Pz g [.ref (g.ad 0), .int nu] (Rg g μ)) (va_Qq (fun (v : Option Nat) (_ : Unit) => v = r.map g.ad) (fun _ _ => True) (fun _ => False)) 0 0 (fun _ => False) := by
  refine Met.ofW (cc := cX7_store) (maxL := 2) (ret := (some (.object "Sandglass$Store"))) (by decide) rfl ?_
  intro p e s m args below meth c s₁ B hml hv
  obtain ⟨rfl, hT, hP⟩ := hv
  have hx := B.exec
  have hb := B.bytes
  have hr := B.returns
  have hts : ∀ w ∈ lw_all, w.before _ s = true := fun w h => atoms_spec (ws := (ws_ yX7_store cX7_store 2 (some (.object "Sandglass$Store")))) B.pre w (List.mem_cons_of_mem _ h)
  have hown : s.vm.findClass RX7 = some m.cls := findClass_of_methodNamed B.named
  have hlocks := B.notSynchronized
  have hS : va_S (fun _ => False) s.heap s.heap [] := va_S.rf
  have hl := lv_entry ([.ref (g.ad 0), .int nu]) (n := 2) (Nat.le_of_ble_eq_true rfl)
  rw [lg_entry_eq]
  generalize (lg_sl ([.ref (g.ad 0), .int nu]) ++ List.replicate (2 - (lg_sl ([.ref (g.ad 0), .int nu])).length) Slot.unset).toArray = ls at hl ⊢
  have hl : lv_has ls 2 [(0, .ref (g.ad 0)), (1, .int nu)] := hl
  unfold f_X7_store at hf
  refine lv_iload_n hx hb dX7_store_0 rfl (lv_at hl 1 rfl) ?_
  refine lv_if_lt (tgt := 29) hx hb dX7_store_1 (by decide) (fun c_1 => ?_) (fun c_1 => ?_)
  · have hf := (if_pos c_1).symm.trans hf
    refine lv_null hx hb dX7_store_29 ?_
    exact W.aret (v := .null) (rt := .object "Sandglass$Store") hx hb hr (Or.inl ⟨_, rfl⟩) (Or.inl rfl) (fun t9 ht hW => ⟨⟨none, (), rfl, by rw [← Option.some.inj hf]; rfl, trivial⟩, hS.F ht⟩) hS.2.2 dX7_store_30
  · have hf := (if_neg c_1).symm.trans hf
    refine lv_iload_n hx hb dX7_store_4 rfl (lv_at hl 1 rfl) ?_
    refine lv_aload_n hx hb dX7_store_5 rfl (lv_at hl 0 rfl) ?_
    refine r_get hx hb hts i_X7 hown hT hP inW (fs := (fsW g)) (obW g) rfl 3 (by decide) q192 (fun _ h9 => h9) rfl dX7_store_6 ?_
    refine va_calli (va_runV (As := []) (rest := [.int nu]) ⟨hx, hb, hml, hown, hts⟩ (c_Jx4a65c_size_8abf5 l hg μ in100 (szS g)) (cwV 0 hts (gd_V q325 q326 q327 q40 q328) rfl rfl rfl hd_Jx4a65c_size_8abf5 ⟨Nat.le_of_ble_eq_true rfl, Nat.le_of_ble_eq_true rfl⟩) ⟨Pz.blind, r_recv hT hP in100 (fs := fun _ => [.int 0, .ref (g.ad (101)), .int (nI (g.sz 1))]) (szS g) rfl, fun U hU hW => ⟨rfl, Tb.warm hW hT, by rw [hU]; exact hP⟩⟩ rfl rfl hl.1 rfl (lv_room (Nat.le_of_ble_eq_true rfl)) dX7_store_9 ⟨Nat.le_of_ble_eq_true rfl, Nat.le_of_ble_eq_true rfl⟩) hS (fun q _ h => h.elim) (fun q h => h.elim) (fun v9 u9 t9 H locs ht9 hvm9 hw9 hB9 hz9 hk9 hS => ?_)
    have hP := Rg.keep hP (fun q h => hk9 q h id)
    rw [hw9]
    refine lv_icmp_ge (tgt := 29) hx hb dX7_store_12 (by decide) (fun c_2 => ?_) (fun c_2 => ?_)
    · have hf := (if_pos c_2).symm.trans hf
      refine lv_null hx hb dX7_store_29 ?_
      exact W.aret (v := .null) (rt := .object "Sandglass$Store") hx hb hr (Or.inl ⟨_, rfl⟩) (Or.inl rfl) (fun t9 ht hW => ⟨⟨none, (), rfl, by rw [← Option.some.inj hf]; rfl, trivial⟩, hS.F ht⟩) hS.2.2 dX7_store_30
    · have hf := (if_neg c_2).symm.trans hf
      refine lv_aload_n hx hb dX7_store_15 rfl (lv_at hl 0 rfl) ?_
      refine r_get hx hb hts i_X7 hown hT hP inW (fs := (fsW g)) (obW g) rfl 3 (by decide) q192 (fun _ h9 => h9) rfl dX7_store_16 ?_
      refine lv_iload_n hx hb dX7_store_19 rfl (lv_at hl 1 rfl) ?_
      obtain ⟨hi_3, hf⟩ := grd_some hf
      have hj_4 : nu.toNatClampNeg < g.sz 1 := Nat.not_le.mp (fun z => hi_3 (Or.inr z))
      refine va_callq (va_runV (As := [.int nu]) (rest := []) ⟨hx, hb, hml, hown, hts⟩ (c_Jx4a65c_get_915e3 l hg μ (lsS hg) (nI_self (fun z => hi_3 (Or.inl z))) hj_4) (cwV 1 hts (gd_V q329 q330 q331 q40 q332) rfl rfl rfl hd_Jx4a65c_get_915e3 ⟨Nat.le_of_ble_eq_true rfl, Nat.le_of_ble_eq_true rfl⟩) ⟨Pz.blind, r_recv hT hP in100 (fs := fun _ => [.int 0, .ref (g.ad (101)), .int (nI (g.sz 1))]) (szS g) rfl, fun U hU hW => ⟨rfl, Tb.warm hW hT, by rw [hU]; exact hP⟩⟩ rfl rfl hl.1 rfl (lv_room (Nat.le_of_ble_eq_true rfl)) dX7_store_20 ⟨Nat.le_of_ble_eq_true rfl, Nat.le_of_ble_eq_true rfl⟩) hS (fun q _ h => h.elim) (fun q h => h.elim) (fun v9 u9 t9 H locs ht9 hvm9 hw9 hB9 hz9 hk9 hS => ?_)
      have hP := Rg.keep hP (fun q h => hk9 q h id)
      rw [hw9, fnL_in hj_4]
      refine W.eq (g2 := F0 m 23 ls (.ref (g.ad (108 + nu.toNatClampNeg)) :: [])) rfl ?_
      obtain ⟨k_5, ek_5⟩ : ∃ z, 108 + nu.toNatClampNeg = z := ⟨_, rfl⟩
      rw [ek_5]
      have hf := bnd_eq hf _ ek_5
      obtain ⟨hk_5, hf⟩ := grd_some hf
      refine r_cast hx hb hts hown hT hP (inS hk_5) (fs := fsS) (obS hk_5) rfl q410 dX7_store_23 ?_
      refine lv_goto (tgt := 30) hx hb dX7_store_26 (by decide) ?_
      exact W.aret (v := .ref (g.ad k_5)) (rt := .object "Sandglass$Store") hx hb hr (Or.inl ⟨_, rfl⟩) (Or.inr ⟨_, rfl⟩) (fun t9 ht hW => ⟨⟨(some (g.ad k_5)), (), rfl, by rw [← Option.some.inj hf]; rfl, trivial⟩, hS.F ht⟩) hS.2.2 dX7_store_30
/-- "Sandglass$World" "script" "(I)LSandglass$Script;" -/
def f_X7_script (g : Geo) (μ : Mem) (nu : Int32) : Option ((Option Nat)) := if nu < 0 then (some (none)) else (if (nI (g.sz 2)) ≤ nu then (some (none)) else (grd (¬ (nu < 0 ∨ g.sz 2 ≤ nu.toNatClampNeg)) (bnd (114 + nu.toNatClampNeg) fun k_5 => grd (114 ≤ k_5 ∧ k_5 < 114 + g.sz 2 ∧ k_5 < 122) (some (some k_5)))))
theorem hd_X7_script : yX7_script.cls = RX7 ∧ yX7_script.cls ≠ "java/lang/invoke/MethodHandle" ∧ yX7_script.cls ≠ "java/lang/invoke/VarHandle" ∧ (parseMethodDescriptor yX7_script.desc).map (fun d => d.parameters.length) = some 1 := by decide +kernel
set_option maxHeartbeats 4000000 in
set_option maxRecDepth 100000 in
theorem c_X7_script (l : Launch) {g : Geo} (hg : Good g) (μ : Mem) (nu : Int32) {r : (Option Nat)} (hf : f_X7_script g μ nu = some r) : Met l yX7_script (ws_ yX7_script cX7_script 2 (some (.object "Sandglass$Script"))) (rm_ 3 64 0 0) (Pz g [.ref (g.ad 0), .int nu] (Rg g μ)) (va_Qq (fun (v : Option Nat) (_ : Unit) => v = r.map g.ad) (fun _ _ => True) (fun _ => False)) 0 0 (fun _ => False) := by
  refine Met.ofW (cc := cX7_script) (maxL := 2) (ret := (some (.object "Sandglass$Script"))) (by decide) rfl ?_
  intro p e s m args below meth c s₁ B hml hv
  obtain ⟨rfl, hT, hP⟩ := hv
  have hx := B.exec
  have hb := B.bytes
  have hr := B.returns
  have hts : ∀ w ∈ lw_all, w.before _ s = true := fun w h => atoms_spec (ws := (ws_ yX7_script cX7_script 2 (some (.object "Sandglass$Script")))) B.pre w (List.mem_cons_of_mem _ h)
  have hown : s.vm.findClass RX7 = some m.cls := findClass_of_methodNamed B.named
  have hlocks := B.notSynchronized
  have hS : va_S (fun _ => False) s.heap s.heap [] := va_S.rf
  have hl := lv_entry ([.ref (g.ad 0), .int nu]) (n := 2) (Nat.le_of_ble_eq_true rfl)
  rw [lg_entry_eq]
  generalize (lg_sl ([.ref (g.ad 0), .int nu]) ++ List.replicate (2 - (lg_sl ([.ref (g.ad 0), .int nu])).length) Slot.unset).toArray = ls at hl ⊢
  have hl : lv_has ls 2 [(0, .ref (g.ad 0)), (1, .int nu)] := hl
  unfold f_X7_script at hf
  refine lv_iload_n hx hb dX7_script_0 rfl (lv_at hl 1 rfl) ?_
  refine lv_if_lt (tgt := 29) hx hb dX7_script_1 (by decide) (fun c_1 => ?_) (fun c_1 => ?_)
  · have hf := (if_pos c_1).symm.trans hf
    refine lv_null hx hb dX7_script_29 ?_
    exact W.aret (v := .null) (rt := .object "Sandglass$Script") hx hb hr (Or.inl ⟨_, rfl⟩) (Or.inl rfl) (fun t9 ht hW => ⟨⟨none, (), rfl, by rw [← Option.some.inj hf]; rfl, trivial⟩, hS.F ht⟩) hS.2.2 dX7_script_30
  · have hf := (if_neg c_1).symm.trans hf
    refine lv_iload_n hx hb dX7_script_4 rfl (lv_at hl 1 rfl) ?_
    refine lv_aload_n hx hb dX7_script_5 rfl (lv_at hl 0 rfl) ?_
    refine r_get hx hb hts i_X7 hown hT hP inW (fs := (fsW g)) (obW g) rfl 0 (by decide) q188 (fun _ h9 => h9) rfl dX7_script_6 ?_
    refine va_calli (va_runV (As := []) (rest := [.int nu]) ⟨hx, hb, hml, hown, hts⟩ (c_Jx4a65c_size_8abf5 l hg μ in112 (szC g)) (cwV 0 hts (gd_V q325 q326 q327 q40 q328) rfl rfl rfl hd_Jx4a65c_size_8abf5 ⟨Nat.le_of_ble_eq_true rfl, Nat.le_of_ble_eq_true rfl⟩) ⟨Pz.blind, r_recv hT hP in112 (fs := fun _ => [.int 0, .ref (g.ad (113)), .int (nI (g.sz 2))]) (szC g) rfl, fun U hU hW => ⟨rfl, Tb.warm hW hT, by rw [hU]; exact hP⟩⟩ rfl rfl hl.1 rfl (lv_room (Nat.le_of_ble_eq_true rfl)) dX7_script_9 ⟨Nat.le_of_ble_eq_true rfl, Nat.le_of_ble_eq_true rfl⟩) hS (fun q _ h => h.elim) (fun q h => h.elim) (fun v9 u9 t9 H locs ht9 hvm9 hw9 hB9 hz9 hk9 hS => ?_)
    have hP := Rg.keep hP (fun q h => hk9 q h id)
    rw [hw9]
    refine lv_icmp_ge (tgt := 29) hx hb dX7_script_12 (by decide) (fun c_2 => ?_) (fun c_2 => ?_)
    · have hf := (if_pos c_2).symm.trans hf
      refine lv_null hx hb dX7_script_29 ?_
      exact W.aret (v := .null) (rt := .object "Sandglass$Script") hx hb hr (Or.inl ⟨_, rfl⟩) (Or.inl rfl) (fun t9 ht hW => ⟨⟨none, (), rfl, by rw [← Option.some.inj hf]; rfl, trivial⟩, hS.F ht⟩) hS.2.2 dX7_script_30
    · have hf := (if_neg c_2).symm.trans hf
      refine lv_aload_n hx hb dX7_script_15 rfl (lv_at hl 0 rfl) ?_
      refine r_get hx hb hts i_X7 hown hT hP inW (fs := (fsW g)) (obW g) rfl 0 (by decide) q188 (fun _ h9 => h9) rfl dX7_script_16 ?_
      refine lv_iload_n hx hb dX7_script_19 rfl (lv_at hl 1 rfl) ?_
      obtain ⟨hi_3, hf⟩ := grd_some hf
      have hj_4 : nu.toNatClampNeg < g.sz 2 := Nat.not_le.mp (fun z => hi_3 (Or.inr z))
      refine va_callq (va_runV (As := [.int nu]) (rest := []) ⟨hx, hb, hml, hown, hts⟩ (c_Jx4a65c_get_915e3 l hg μ (lsC hg) (nI_self (fun z => hi_3 (Or.inl z))) hj_4) (cwV 1 hts (gd_V q329 q330 q331 q40 q332) rfl rfl rfl hd_Jx4a65c_get_915e3 ⟨Nat.le_of_ble_eq_true rfl, Nat.le_of_ble_eq_true rfl⟩) ⟨Pz.blind, r_recv hT hP in112 (fs := fun _ => [.int 0, .ref (g.ad (113)), .int (nI (g.sz 2))]) (szC g) rfl, fun U hU hW => ⟨rfl, Tb.warm hW hT, by rw [hU]; exact hP⟩⟩ rfl rfl hl.1 rfl (lv_room (Nat.le_of_ble_eq_true rfl)) dX7_script_20 ⟨Nat.le_of_ble_eq_true rfl, Nat.le_of_ble_eq_true rfl⟩) hS (fun q _ h => h.elim) (fun q h => h.elim) (fun v9 u9 t9 H locs ht9 hvm9 hw9 hB9 hz9 hk9 hS => ?_)
      have hP := Rg.keep hP (fun q h => hk9 q h id)
      rw [hw9, fnL_in hj_4]
      refine W.eq (g2 := F0 m 23 ls (.ref (g.ad (114 + nu.toNatClampNeg)) :: [])) rfl ?_
      obtain ⟨k_5, ek_5⟩ : ∃ z, 114 + nu.toNatClampNeg = z := ⟨_, rfl⟩
      rw [ek_5]
      have hf := bnd_eq hf _ ek_5
      obtain ⟨hk_5, hf⟩ := grd_some hf
      refine r_cast hx hb hts hown hT hP (inC hk_5) (fs := (fsC g k_5)) (obC hk_5) rfl q343 dX7_script_23 ?_
      refine lv_goto (tgt := 30) hx hb dX7_script_26 (by decide) ?_
      exact W.aret (v := .ref (g.ad k_5)) (rt := .object "Sandglass$Script") hx hb hr (Or.inl ⟨_, rfl⟩) (Or.inr ⟨_, rfl⟩) (fun t9 ht hW => ⟨⟨(some (g.ad k_5)), (), rfl, by rw [← Option.some.inj hf]; rfl, trivial⟩, hS.F ht⟩) hS.2.2 dX7_script_30
/-- "Sandglass$World" "process" "(I)LSandglass$Proc;" -/
def f_X7_process (g : Geo) (μ : Mem) (nu : Int32) : Option ((Option Nat)) := if nu < 0 then (some (none)) else (if (μ 0 5) ≤ nu then (some (none)) else (if 24 ≤ nu then (some (none)) else (grd (¬ (nu < 0 ∨ 24 ≤ nu.toNatClampNeg)) (bnd (nu.toNatClampNeg + 1) fun k_6 => some (some k_6)))))
theorem hd_X7_process : yX7_process.cls = RX7 ∧ yX7_process.cls ≠ "java/lang/invoke/MethodHandle" ∧ yX7_process.cls ≠ "java/lang/invoke/VarHandle" ∧ (parseMethodDescriptor yX7_process.desc).map (fun d => d.parameters.length) = some 1 := by decide +kernel
set_option maxHeartbeats 4000000 in
set_option maxRecDepth 100000 in
theorem c_X7_process (l : Launch) {g : Geo} (hg : Good g) (μ : Mem) (nu : Int32) {r : (Option Nat)} (hf : f_X7_process g μ nu = some r) : Met l yX7_process (ws_ yX7_process cX7_process 2 (some (.object "Sandglass$Proc"))) (rm_ 0 0 0 0) (Pz g [.ref (g.ad 0), .int nu] (Rg g μ)) (va_Qq (fun (v : Option Nat) (_ : Unit) => v = r.map g.ad) (fun _ _ => True) (fun _ => False)) 0 0 (fun _ => False) := by
  refine Met.ofW (cc := cX7_process) (maxL := 2) (ret := (some (.object "Sandglass$Proc"))) (by decide) rfl ?_
  intro p e s m args below meth c s₁ B hml hv
  obtain ⟨rfl, hT, hP⟩ := hv
  have hx := B.exec
  have hb := B.bytes
  have hr := B.returns
  have hts : ∀ w ∈ lw_all, w.before _ s = true := fun w h => atoms_spec (ws := (ws_ yX7_process cX7_process 2 (some (.object "Sandglass$Proc")))) B.pre w (List.mem_cons_of_mem _ h)
  have hown : s.vm.findClass RX7 = some m.cls := findClass_of_methodNamed B.named
  have hlocks := B.notSynchronized
  have hS : va_S (fun _ => False) s.heap s.heap [] := va_S.rf
  have hl := lv_entry ([.ref (g.ad 0), .int nu]) (n := 2) (Nat.le_of_ble_eq_true rfl)
  rw [lg_entry_eq]
  generalize (lg_sl ([.ref (g.ad 0), .int nu]) ++ List.replicate (2 - (lg_sl ([.ref (g.ad 0), .int nu])).length) Slot.unset).toArray = ls at hl ⊢
  have hl : lv_has ls 2 [(0, .ref (g.ad 0)), (1, .int nu)] := hl
  unfold f_X7_process at hf
  refine lv_iload_n hx hb dX7_process_0 rfl (lv_at hl 1 rfl) ?_
  refine lv_if_lt (tgt := 30) hx hb dX7_process_1 (by decide) (fun c_1 => ?_) (fun c_1 => ?_)
  · have hf := (if_pos c_1).symm.trans hf
    refine lv_null hx hb dX7_process_30 ?_
    exact W.aret (v := .null) (rt := .object "Sandglass$Proc") hx hb hr (Or.inl ⟨_, rfl⟩) (Or.inl rfl) (fun t9 ht hW => ⟨⟨none, (), rfl, by rw [← Option.some.inj hf]; rfl, trivial⟩, hS.F ht⟩) hS.2.2 dX7_process_31
  · have hf := (if_neg c_1).symm.trans hf
    refine lv_iload_n hx hb dX7_process_4 rfl (lv_at hl 1 rfl) ?_
    refine lv_aload_n hx hb dX7_process_5 rfl (lv_at hl 0 rfl) ?_
    refine r_get hx hb hts i_X7 hown hT hP inW (fs := (fsW g)) (obW g) rfl 5 (by decide) q195 (fun _ h9 => h9) rfl dX7_process_6 ?_
    refine lv_icmp_ge (tgt := 30) hx hb dX7_process_9 (by decide) (fun c_2 => ?_) (fun c_2 => ?_)
    · have hf := (if_pos c_2).symm.trans hf
      refine lv_null hx hb dX7_process_30 ?_
      exact W.aret (v := .null) (rt := .object "Sandglass$Proc") hx hb hr (Or.inl ⟨_, rfl⟩) (Or.inl rfl) (fun t9 ht hW => ⟨⟨none, (), rfl, by rw [← Option.some.inj hf]; rfl, trivial⟩, hS.F ht⟩) hS.2.2 dX7_process_31
    · have hf := (if_neg c_2).symm.trans hf
      refine lv_iload_n hx hb dX7_process_12 rfl (lv_at hl 1 rfl) ?_
      refine lv_aload_n hx hb dX7_process_13 rfl (lv_at hl 0 rfl) ?_
      refine r_get hx hb hts i_X7 hown hT hP inW (fs := (fsW g)) (obW g) rfl 4 (by decide) q194 (fun _ h9 => h9) rfl dX7_process_14 ?_
      refine r_alenP hx hb hT hP dX7_process_17 ?_
      refine lv_icmp_ge (tgt := 30) hx hb dX7_process_18 (by decide) (fun c_3 => ?_) (fun c_3 => ?_)
      · have hf := (if_pos c_3).symm.trans hf
        refine lv_null hx hb dX7_process_30 ?_
        exact W.aret (v := .null) (rt := .object "Sandglass$Proc") hx hb hr (Or.inl ⟨_, rfl⟩) (Or.inl rfl) (fun t9 ht hW => ⟨⟨none, (), rfl, by rw [← Option.some.inj hf]; rfl, trivial⟩, hS.F ht⟩) hS.2.2 dX7_process_31
      · have hf := (if_neg c_3).symm.trans hf
        refine lv_aload_n hx hb dX7_process_21 rfl (lv_at hl 0 rfl) ?_
        refine r_get hx hb hts i_X7 hown hT hP inW (fs := (fsW g)) (obW g) rfl 4 (by decide) q194 (fun _ h9 => h9) rfl dX7_process_22 ?_
        refine lv_iload_n hx hb dX7_process_25 rfl (lv_at hl 1 rfl) ?_
        obtain ⟨hi_4, hf⟩ := grd_some hf
        refine r_aaldP hx hb hT hP hi_4 dX7_process_26 (fun hp_5 => ?_)
        obtain ⟨k_6, ek_6⟩ : ∃ z, nu.toNatClampNeg + 1 = z := ⟨_, rfl⟩
        rw [ek_6] at hp_5 ⊢
        have hf := bnd_eq hf _ ek_6
        refine lv_goto (tgt := 31) hx hb dX7_process_27 (by decide) ?_
        exact W.aret (v := .ref (g.ad k_6)) (rt := .object "Sandglass$Proc") hx hb hr (Or.inl ⟨_, rfl⟩) (Or.inr ⟨_, rfl⟩) (fun t9 ht hW => ⟨⟨(some (g.ad k_6)), (), rfl, by rw [← Option.some.inj hf]; rfl, trivial⟩, hS.F ht⟩) hS.2.2 dX7_process_31
/-- "Sandglass$World" "hasStarted" "(LSandglass$Script;)Z" -/
def b_X7_hasStarted_11 (g : Geo) : Nat → Mem → Nat → Int32 → Int32 → Option (Int32)
  | 0, _, _, _, _ => none
  | n + 1, μ, x1, x3, x4 => if x3 ≤ x4 then (some 0) else (grd (¬ (x4 < 0 ∨ 24 ≤ x4.toNatClampNeg)) (bnd (x4.toNatClampNeg + 1) fun k_4 => csQ (srf (μ k_4 1)) (b_X7_hasStarted_11 g n μ x1 x3 (x4 + 1)) (fun o_5 => grd (114 ≤ o_5 ∧ o_5 < 114 + g.sz 2 ∧ o_5 < 122) (if o_5 = x1 then (some 1) else (b_X7_hasStarted_11 g n μ x1 x3 (x4 + 1))))))
def f_X7_hasStarted (g : Geo) (μ : Mem) (sc : Nat) : Option (Int32) := b_X7_hasStarted_11 g fu μ sc 24 0
theorem hd_X7_hasStarted : yX7_hasStarted.cls = RX7 ∧ yX7_hasStarted.cls ≠ "java/lang/invoke/MethodHandle" ∧ yX7_hasStarted.cls ≠ "java/lang/invoke/VarHandle" ∧ (parseMethodDescriptor yX7_hasStarted.desc).map (fun d => d.parameters.length) = some 1 := by decide +kernel
set_option maxHeartbeats 4000000 in
set_option maxRecDepth 100000 in
theorem c_X7_hasStarted (l : Launch) {g : Geo} (hg : Good g) (μ : Mem) (sc : Nat) (hsc : isC g sc) {r : Int32} (hf : f_X7_hasStarted g μ sc = some r) : Met l yX7_hasStarted (ws_ yX7_hasStarted cX7_hasStarted 6 (some .boolean)) (rm_ 0 0 0 0) (Pz g [.ref (g.ad 0), .ref (g.ad sc)] (Rg g μ)) (va_Qi (fun (v : Int32) (_ : Unit) => v = r) (fun _ _ => True) (fun _ => False)) 0 0 (fun _ => False) := by
  refine Met.ofW (cc := cX7_hasStarted) (maxL := 6) (ret := (some .boolean)) (by decide) rfl ?_
  intro p e s m args below meth c s₁ B hml hv
  obtain ⟨rfl, hT, hP⟩ := hv
  have hx := B.exec
  have hb := B.bytes
  have hr := B.returns
  have hts : ∀ w ∈ lw_all, w.before _ s = true := fun w h => atoms_spec (ws := (ws_ yX7_hasStarted cX7_hasStarted 6 (some .boolean))) B.pre w (List.mem_cons_of_mem _ h)
  have hown : s.vm.findClass RX7 = some m.cls := findClass_of_methodNamed B.named
  have hlocks := B.notSynchronized
  have hS : va_S (fun _ => False) s.heap s.heap [] := va_S.rf
  have L11 : ∀ (n : Nat) (μ : Mem) (x1 : Nat) (x3 : Int32) (x4 : Int32) (H : Heap) (locs : List Loc) (ls : Array Slot), Rg g μ H → va_S (fun _ => False) s.heap H locs → lv_has ls 6 [(1, .ref (g.ad x1)), (2, .ref (g.ad 97)), (3, .int x3), (4, .int x4)] → isC g x1 → b_X7_hasStarted_11 g n μ x1 x3 x4 = some r → W p l e (headSpec (ws_ yX7_hasStarted cX7_hasStarted 6 (some .boolean)) (rm_ 0 0 0 0)).room s m ([.ref (g.ad 0), .ref (g.ad sc)] : List Value).toArray below meth c H locs 0 0 (MQ below (va_Qi (fun (v : Int32) (_ : Unit) => v = r) (fun _ _ => True) (fun _ => False)) ([.ref (g.ad 0), .ref (g.ad sc)] : List Value).toArray s 0 0 (fun _ => False)) (F0 m 11 ls []) := by
    intro n
    induction n with
    | zero => intro μ x1 x3 x4 H locs ls hP hS hl hx1 hf; cases hf
    | succ n ih =>
      intro μ x1 x3 x4 H locs ls hP hS hl hx1 hf
      rw [b_X7_hasStarted_11] at hf
      refine lv_iload hx hb dX7_hasStarted_11 (lv_at hl 3 rfl) ?_
      refine lv_iload_n hx hb dX7_hasStarted_13 rfl (lv_at hl 2 rfl) ?_
      refine lv_icmp_ge (tgt := 40) hx hb dX7_hasStarted_14 (by decide) (fun c_1 => ?_) (fun c_1 => ?_)
      · have hf := (if_pos c_1).symm.trans hf
        refine lv_iconst (v := 0) hx hb dX7_hasStarted_40 (by decide) ?_
        exact W.zret (v := 0) (ty := .boolean) hx hb hr (by decide) (fun t9 ht hW => ⟨⟨0, (), rfl, Option.some.inj hf, trivial⟩, hS.F ht⟩) hS.2.2 dX7_hasStarted_41
      · have hf := (if_neg c_1).symm.trans hf
        refine lv_aload_n hx hb dX7_hasStarted_17 rfl (lv_at hl 1 rfl) ?_
        refine lv_iload hx hb dX7_hasStarted_18 (lv_at hl 3 rfl) ?_
        obtain ⟨hi_2, hf⟩ := grd_some hf
        refine r_aaldP hx hb hT hP hi_2 dX7_hasStarted_20 (fun hp_3 => ?_)
        obtain ⟨k_4, ek_4⟩ : ∃ z, x4.toNatClampNeg + 1 = z := ⟨_, rfl⟩
        rw [ek_4] at hp_3 ⊢
        have hf := bnd_eq hf _ ek_4
        refine lv_astore (lv' := [(5, .ref (g.ad k_4)), (1, .ref (g.ad x1)), (2, .ref (g.ad 97)), (3, .int x3), (4, .int x4)]) hx hb dX7_hasStarted_21 hl (by decide) rfl (fun ls hl => ?_)
        refine lv_aload hx hb dX7_hasStarted_23 (lv_at hl 0 rfl) ?_
        refine r_get hx hb hts i_X2 hown hT hP (inP hp_3) (fs := (fsP g k_4)) (obP hp_3) rfl 1 (by decide) q114 (fun _ h9 => h9) rfl dX7_hasStarted_25 ?_
        rw [sref_srf]
        cases ho_59 : srf (μ k_4 1) with
        | none =>
          rw [ho_59] at hf
          dsimp only [csQ] at hf
          refine W.eq (g2 := F0 m 28 ls [.null]) rfl ?_
          refine lv_aload_n hx hb dX7_hasStarted_28 rfl (lv_at hl 1 rfl) ?_
          refine r_acmp_neN (tgt := 34) hx hb dX7_hasStarted_29 (by decide) ?_
          refine lv_iinc (v := x4 + 1) (lv' := [(4, .int (x4 + 1)), (5, .ref (g.ad k_4)), (1, .ref (g.ad x1)), (2, .ref (g.ad 97)), (3, .int x3)]) hx hb dX7_hasStarted_34 hl (k := 4) rfl rfl (by decide) rfl (fun ls hl => ?_)
          refine lv_goto (tgt := 11) hx hb dX7_hasStarted_37 (by decide) ?_
          exact ih μ x1 x3 (x4 + 1) _ _ _ hP hS (lv_sub hl [2, 3, 4, 0] rfl) hx1 hf
        | some o_5 =>
          rw [ho_59] at hf
          dsimp only [csQ] at hf
          obtain ⟨ho_5, hf⟩ := grd_some hf
          refine W.eq (g2 := F0 m 28 ls [.ref (g.ad o_5)]) rfl ?_
          refine lv_aload_n hx hb dX7_hasStarted_28 rfl (lv_at hl 1 rfl) ?_
          refine r_acmp_ne (tgt := 34) hx hb hg (inC ho_5) (inC hx1) dX7_hasStarted_29 (by decide) (fun c_6 => ?_) (fun c_6 => ?_)
          · have hf := (if_neg c_6).symm.trans hf
            refine lv_iinc (v := x4 + 1) (lv' := [(4, .int (x4 + 1)), (5, .ref (g.ad k_4)), (1, .ref (g.ad x1)), (2, .ref (g.ad 97)), (3, .int x3)]) hx hb dX7_hasStarted_34 hl (k := 4) rfl rfl (by decide) rfl (fun ls hl => ?_)
            refine lv_goto (tgt := 11) hx hb dX7_hasStarted_37 (by decide) ?_
            exact ih μ x1 x3 (x4 + 1) _ _ _ hP hS (lv_sub hl [2, 3, 4, 0] rfl) hx1 hf
          · have hf := (if_pos c_6).symm.trans hf
            refine lv_iconst (v := 1) hx hb dX7_hasStarted_32 (by decide) ?_
            exact W.zret (v := 1) (ty := .boolean) hx hb hr (by decide) (fun t9 ht hW => ⟨⟨1, (), rfl, Option.some.inj hf, trivial⟩, hS.F ht⟩) hS.2.2 dX7_hasStarted_33
  have hl := lv_entry ([.ref (g.ad 0), .ref (g.ad sc)]) (n := 6) (Nat.le_of_ble_eq_true rfl)
  rw [lg_entry_eq]
  generalize (lg_sl ([.ref (g.ad 0), .ref (g.ad sc)]) ++ List.replicate (6 - (lg_sl ([.ref (g.ad 0), .ref (g.ad sc)])).length) Slot.unset).toArray = ls at hl ⊢
  have hl : lv_has ls 6 [(0, .ref (g.ad 0)), (1, .ref (g.ad sc))] := hl
  unfold f_X7_hasStarted at hf
  refine lv_aload_n hx hb dX7_hasStarted_0 rfl (lv_at hl 0 rfl) ?_
  refine r_get hx hb hts i_X7 hown hT hP inW (fs := (fsW g)) (obW g) rfl 4 (by decide) q194 (fun _ h9 => h9) rfl dX7_hasStarted_1 ?_
  refine lv_astore_n (lv' := [(2, .ref (g.ad 97)), (0, .ref (g.ad 0)), (1, .ref (g.ad sc))]) hx hb dX7_hasStarted_4 rfl hl (by decide) rfl (fun ls hl => ?_)
  refine lv_aload_n hx hb dX7_hasStarted_5 rfl (lv_at hl 0 rfl) ?_
  refine r_alenP hx hb hT hP dX7_hasStarted_6 ?_
  refine lv_istore_n (lv' := [(3, .int 24), (2, .ref (g.ad 97)), (0, .ref (g.ad 0)), (1, .ref (g.ad sc))]) hx hb dX7_hasStarted_7 rfl hl (by decide) rfl (fun ls hl => ?_)
  refine lv_iconst (v := 0) hx hb dX7_hasStarted_8 (by decide) ?_
  refine lv_istore (lv' := [(4, .int 0), (3, .int 24), (2, .ref (g.ad 97)), (0, .ref (g.ad 0)), (1, .ref (g.ad sc))]) hx hb dX7_hasStarted_9 hl (by decide) rfl (fun ls hl => ?_)
  exact L11 fu μ sc 24 0 _ _ _ hP hS (lv_sub hl [4, 2, 1, 0] rfl) hsc hf
/-- "Sandglass$World" "countEvents" "()I" -/
def b_X7_countEvents_13 (g : Geo) : Nat → Mem → Int32 → Int32 → Int32 → Option (Int32)
  | 0, _, _, _, _ => none
  | n + 1, μ, x1, x3, x4 => if x3 ≤ x4 then (some x1) else (grd (¬ (x4 < 0 ∨ 24 ≤ x4.toNatClampNeg)) (bnd (x4.toNatClampNeg + 1) fun k_4 => if (μ k_4 7) = (-1) then (b_X7_countEvents_13 g n μ x1 x3 (x4 + 1)) else (b_X7_countEvents_13 g n μ (x1 + 1) x3 (x4 + 1))))
def f_X7_countEvents (g : Geo) (μ : Mem) : Option (Int32) := b_X7_countEvents_13 g fu μ 0 24 0
theorem hd_X7_countEvents : yX7_countEvents.cls = RX7 ∧ yX7_countEvents.cls ≠ "java/lang/invoke/MethodHandle" ∧ yX7_countEvents.cls ≠ "java/lang/invoke/VarHandle" ∧ (parseMethodDescriptor yX7_countEvents.desc).map (fun d => d.parameters.length) = some 0 := by decide +kernel
set_option maxHeartbeats 4000000 in
set_option maxRecDepth 100000 in
theorem c_X7_countEvents (l : Launch) {g : Geo} (hg : Good g) (μ : Mem) {r : Int32} (hf : f_X7_countEvents g μ  = some r) : Met l yX7_countEvents (ws_ yX7_countEvents cX7_countEvents 6 (some .int)) (rm_ 0 0 0 0) (Pz g [.ref (g.ad 0)] (Rg g μ)) (va_Qi (fun (v : Int32) (_ : Unit) => v = r) (fun _ _ => True) (fun _ => False)) 0 0 (fun _ => False) := by
  refine Met.ofW (cc := cX7_countEvents) (maxL := 6) (ret := (some .int)) (by decide) rfl ?_
  intro p e s m args below meth c s₁ B hml hv
  obtain ⟨rfl, hT, hP⟩ := hv
  have hx := B.exec
  have hb := B.bytes
  have hr := B.returns
  have hts : ∀ w ∈ lw_all, w.before _ s = true := fun w h => atoms_spec (ws := (ws_ yX7_countEvents cX7_countEvents 6 (some .int))) B.pre w (List.mem_cons_of_mem _ h)
  have hown : s.vm.findClass RX7 = some m.cls := findClass_of_methodNamed B.named
  have hlocks := B.notSynchronized
  have hS : va_S (fun _ => False) s.heap s.heap [] := va_S.rf
  have L13 : ∀ (n : Nat) (μ : Mem) (x1 : Int32) (x3 : Int32) (x4 : Int32) (H : Heap) (locs : List Loc) (ls : Array Slot), Rg g μ H → va_S (fun _ => False) s.heap H locs → lv_has ls 6 [(1, .int x1), (2, .ref (g.ad 97)), (3, .int x3), (4, .int x4)] → b_X7_countEvents_13 g n μ x1 x3 x4 = some r → W p l e (headSpec (ws_ yX7_countEvents cX7_countEvents 6 (some .int)) (rm_ 0 0 0 0)).room s m ([.ref (g.ad 0)] : List Value).toArray below meth c H locs 0 0 (MQ below (va_Qi (fun (v : Int32) (_ : Unit) => v = r) (fun _ _ => True) (fun _ => False)) ([.ref (g.ad 0)] : List Value).toArray s 0 0 (fun _ => False)) (F0 m 13 ls []) := by
    intro n
    induction n with
    | zero => intro μ x1 x3 x4 H locs ls hP hS hl  hf; cases hf
    | succ n ih =>
      intro μ x1 x3 x4 H locs ls hP hS hl  hf
      rw [b_X7_countEvents_13] at hf
      refine lv_iload hx hb dX7_countEvents_13 (lv_at hl 3 rfl) ?_
      refine lv_iload_n hx hb dX7_countEvents_15 rfl (lv_at hl 2 rfl) ?_
      refine lv_icmp_ge (tgt := 43) hx hb dX7_countEvents_16 (by decide) (fun c_1 => ?_) (fun c_1 => ?_)
      · have hf := (if_pos c_1).symm.trans hf
        refine lv_iload_n hx hb dX7_countEvents_43 rfl (lv_at hl 0 rfl) ?_
        exact W.iret (v := x1) hx hb hr (fun t9 ht hW => ⟨⟨x1, (), rfl, Option.some.inj hf, trivial⟩, hS.F ht⟩) hS.2.2 dX7_countEvents_44
      · have hf := (if_neg c_1).symm.trans hf
        refine lv_aload_n hx hb dX7_countEvents_19 rfl (lv_at hl 1 rfl) ?_
        refine lv_iload hx hb dX7_countEvents_20 (lv_at hl 3 rfl) ?_
        obtain ⟨hi_2, hf⟩ := grd_some hf
        refine r_aaldP hx hb hT hP hi_2 dX7_countEvents_22 (fun hp_3 => ?_)
        obtain ⟨k_4, ek_4⟩ : ∃ z, x4.toNatClampNeg + 1 = z := ⟨_, rfl⟩
        rw [ek_4] at hp_3 ⊢
        have hf := bnd_eq hf _ ek_4
        refine lv_astore (lv' := [(5, .ref (g.ad k_4)), (1, .int x1), (2, .ref (g.ad 97)), (3, .int x3), (4, .int x4)]) hx hb dX7_countEvents_23 hl (by decide) rfl (fun ls hl => ?_)
        refine lv_aload hx hb dX7_countEvents_25 (lv_at hl 0 rfl) ?_
        refine r_get hx hb hts i_X2 hown hT hP (inP hp_3) (fs := (fsP g k_4)) (obP hp_3) rfl 7 (by decide) q131 (fun _ h9 => h9) rfl dX7_countEvents_27 ?_
        refine lv_iconst (v := (-1)) hx hb dX7_countEvents_30 (by decide) ?_
        refine lv_icmp_eq (tgt := 37) hx hb dX7_countEvents_31 (by decide) (fun c_5 => ?_) (fun c_5 => ?_)
        · have hf := (if_pos c_5).symm.trans hf
          refine lv_iinc (v := x4 + 1) (lv' := [(4, .int (x4 + 1)), (5, .ref (g.ad k_4)), (1, .int x1), (2, .ref (g.ad 97)), (3, .int x3)]) hx hb dX7_countEvents_37 hl (k := 4) rfl rfl (by decide) rfl (fun ls hl => ?_)
          refine lv_goto (tgt := 13) hx hb dX7_countEvents_40 (by decide) ?_
          exact ih μ x1 x3 (x4 + 1) _ _ _ hP hS (lv_sub hl [2, 3, 4, 0] rfl)  hf
        · have hf := (if_neg c_5).symm.trans hf
          refine lv_iinc (v := x1 + 1) (lv' := [(1, .int (x1 + 1)), (5, .ref (g.ad k_4)), (2, .ref (g.ad 97)), (3, .int x3), (4, .int x4)]) hx hb dX7_countEvents_34 hl (k := 1) rfl rfl (by decide) rfl (fun ls hl => ?_)
          refine lv_iinc (v := x4 + 1) (lv' := [(4, .int (x4 + 1)), (1, .int (x1 + 1)), (5, .ref (g.ad k_4)), (2, .ref (g.ad 97)), (3, .int x3)]) hx hb dX7_countEvents_37 hl (k := 4) rfl rfl (by decide) rfl (fun ls hl => ?_)
          refine lv_goto (tgt := 13) hx hb dX7_countEvents_40 (by decide) ?_
          exact ih μ (x1 + 1) x3 (x4 + 1) _ _ _ hP hS (lv_sub hl [1, 3, 4, 0] rfl)  hf
  have hl := lv_entry ([.ref (g.ad 0)]) (n := 6) (Nat.le_of_ble_eq_true rfl)
  rw [lg_entry_eq]
  generalize (lg_sl ([.ref (g.ad 0)]) ++ List.replicate (6 - (lg_sl ([.ref (g.ad 0)])).length) Slot.unset).toArray = ls at hl ⊢
  have hl : lv_has ls 6 [(0, .ref (g.ad 0))] := hl
  unfold f_X7_countEvents at hf
  refine lv_iconst (v := 0) hx hb dX7_countEvents_0 (by decide) ?_
  refine lv_istore_n (lv' := [(1, .int 0), (0, .ref (g.ad 0))]) hx hb dX7_countEvents_1 rfl hl (by decide) rfl (fun ls hl => ?_)
  refine lv_aload_n hx hb dX7_countEvents_2 rfl (lv_at hl 1 rfl) ?_
  refine r_get hx hb hts i_X7 hown hT hP inW (fs := (fsW g)) (obW g) rfl 4 (by decide) q194 (fun _ h9 => h9) rfl dX7_countEvents_3 ?_
  refine lv_astore_n (lv' := [(2, .ref (g.ad 97)), (1, .int 0), (0, .ref (g.ad 0))]) hx hb dX7_countEvents_6 rfl hl (by decide) rfl (fun ls hl => ?_)
  refine lv_aload_n hx hb dX7_countEvents_7 rfl (lv_at hl 0 rfl) ?_
  refine r_alenP hx hb hT hP dX7_countEvents_8 ?_
  refine lv_istore_n (lv' := [(3, .int 24), (2, .ref (g.ad 97)), (1, .int 0), (0, .ref (g.ad 0))]) hx hb dX7_countEvents_9 rfl hl (by decide) rfl (fun ls hl => ?_)
  refine lv_iconst (v := 0) hx hb dX7_countEvents_10 (by decide) ?_
  refine lv_istore (lv' := [(4, .int 0), (3, .int 24), (2, .ref (g.ad 97)), (1, .int 0), (0, .ref (g.ad 0))]) hx hb dX7_countEvents_11 hl (by decide) rfl (fun ls hl => ?_)
  exact L13 fu μ 0 24 0 _ _ _ hP hS (lv_sub hl [3, 2, 1, 0] rfl)  hf
/-- "Sandglass$World" "nextToGo" "()LSandglass$Proc;" -/
def b_X7_nextToGo_13 (g : Geo) : Nat → Mem → Option Nat → Int32 → Int32 → Option ((Option Nat))
  | 0, _, _, _, _ => none
  | n + 1, μ, x1, x3, x4 => if x3 ≤ x4 then (csQ x1 (some (none)) (fun o_2 => grd (1 ≤ o_2 ∧ o_2 < 25) (some (some o_2)))) else (grd (¬ (x4 < 0 ∨ 24 ≤ x4.toNatClampNeg)) (bnd (x4.toNatClampNeg + 1) fun k_5 => if (μ k_5 7) = (-1) then (b_X7_nextToGo_13 g n μ x1 x3 (x4 + 1)) else (csQ x1 (b_X7_nextToGo_13 g n μ (some k_5) x3 (x4 + 1)) (fun o_7 => grd (1 ≤ o_7 ∧ o_7 < 25) (bnO (f_X2_goesBefore g μ k_5 o_7) fun r_8 => if r_8 = 0 then (b_X7_nextToGo_13 g n μ (some o_7) x3 (x4 + 1)) else (b_X7_nextToGo_13 g n μ (some k_5) x3 (x4 + 1)))))))
def f_X7_nextToGo (g : Geo) (μ : Mem) : Option ((Option Nat)) := b_X7_nextToGo_13 g fu μ none 24 0
theorem hd_X7_nextToGo : yX7_nextToGo.cls = RX7 ∧ yX7_nextToGo.cls ≠ "java/lang/invoke/MethodHandle" ∧ yX7_nextToGo.cls ≠ "java/lang/invoke/VarHandle" ∧ (parseMethodDescriptor yX7_nextToGo.desc).map (fun d => d.parameters.length) = some 0 := by decide +kernel
set_option maxHeartbeats 4000000 in
set_option maxRecDepth 100000 in
theorem c_X7_nextToGo (l : Launch) {g : Geo} (hg : Good g) (μ : Mem) {r : (Option Nat)} (hf : f_X7_nextToGo g μ  = some r) : Met l yX7_nextToGo (ws_ yX7_nextToGo cX7_nextToGo 6 (some (.object "Sandglass$Proc"))) (rm_ 1 21 0 0) (Pz g [.ref (g.ad 0)] (Rg g μ)) (va_Qq (fun (v : Option Nat) (_ : Unit) => v = r.map g.ad) (fun _ _ => True) (fun _ => False)) 0 0 (fun _ => False) := by
  refine Met.ofW (cc := cX7_nextToGo) (maxL := 6) (ret := (some (.object "Sandglass$Proc"))) (by decide) rfl ?_
  intro p e s m args below meth c s₁ B hml hv
  obtain ⟨rfl, hT, hP⟩ := hv
  have hx := B.exec
  have hb := B.bytes
  have hr := B.returns
  have hts : ∀ w ∈ lw_all, w.before _ s = true := fun w h => atoms_spec (ws := (ws_ yX7_nextToGo cX7_nextToGo 6 (some (.object "Sandglass$Proc")))) B.pre w (List.mem_cons_of_mem _ h)
  have hown : s.vm.findClass RX7 = some m.cls := findClass_of_methodNamed B.named
  have hlocks := B.notSynchronized
  have hS : va_S (fun _ => False) s.heap s.heap [] := va_S.rf
  have L13 : ∀ (n : Nat) (μ : Mem) (x1 : Option Nat) (x3 : Int32) (x4 : Int32) (H : Heap) (locs : List Loc) (ls : Array Slot), Rg g μ H → va_S (fun _ => False) s.heap H locs → lv_has ls 6 [(1, va_rf (x1.map g.ad)), (2, .ref (g.ad 97)), (3, .int x3), (4, .int x4)] → b_X7_nextToGo_13 g n μ x1 x3 x4 = some r → W p l e (headSpec (ws_ yX7_nextToGo cX7_nextToGo 6 (some (.object "Sandglass$Proc"))) (rm_ 1 21 0 0)).room s m ([.ref (g.ad 0)] : List Value).toArray below meth c H locs 0 0 (MQ below (va_Qq (fun (v : Option Nat) (_ : Unit) => v = r.map g.ad) (fun _ _ => True) (fun _ => False)) ([.ref (g.ad 0)] : List Value).toArray s 0 0 (fun _ => False)) (F0 m 13 ls []) := by
    intro n
    induction n with
    | zero => intro μ x1 x3 x4 H locs ls hP hS hl  hf; cases hf
    | succ n ih =>
      intro μ x1 x3 x4 H locs ls hP hS hl  hf
      rw [b_X7_nextToGo_13] at hf
      refine lv_iload hx hb dX7_nextToGo_13 (lv_at hl 3 rfl) ?_
      refine lv_iload_n hx hb dX7_nextToGo_15 rfl (lv_at hl 2 rfl) ?_
      refine lv_icmp_ge (tgt := 56) hx hb dX7_nextToGo_16 (by decide) (fun c_1 => ?_) (fun c_1 => ?_)
      · have hf := (if_pos c_1).symm.trans hf
        cases x1 with
        | none =>
          have hl : lv_has ls 6 [(1, .null), (2, .ref (g.ad 97)), (3, .int x3), (4, .int x4)] := hl
          dsimp only [csQ] at hf
          refine lv_aload_nN hx hb dX7_nextToGo_56 rfl (lv_at hl 0 rfl) ?_
          exact W.aret (v := .null) (rt := .object "Sandglass$Proc") hx hb hr (Or.inl ⟨_, rfl⟩) (Or.inl rfl) (fun t9 ht hW => ⟨⟨none, (), rfl, by rw [← Option.some.inj hf]; rfl, trivial⟩, hS.F ht⟩) hS.2.2 dX7_nextToGo_57
        | some o_2 =>
          have hl : lv_has ls 6 [(1, .ref (g.ad o_2)), (2, .ref (g.ad 97)), (3, .int x3), (4, .int x4)] := hl
          dsimp only [csQ] at hf
          obtain ⟨ho_2, hf⟩ := grd_some hf
          refine lv_aload_n hx hb dX7_nextToGo_56 rfl (lv_at hl 0 rfl) ?_
          exact W.aret (v := .ref (g.ad o_2)) (rt := .object "Sandglass$Proc") hx hb hr (Or.inl ⟨_, rfl⟩) (Or.inr ⟨_, rfl⟩) (fun t9 ht hW => ⟨⟨(some (g.ad o_2)), (), rfl, by rw [← Option.some.inj hf]; rfl, trivial⟩, hS.F ht⟩) hS.2.2 dX7_nextToGo_57
      · have hf := (if_neg c_1).symm.trans hf
        refine lv_aload_n hx hb dX7_nextToGo_19 rfl (lv_at hl 1 rfl) ?_
        refine lv_iload hx hb dX7_nextToGo_20 (lv_at hl 3 rfl) ?_
        obtain ⟨hi_3, hf⟩ := grd_some hf
        refine r_aaldP hx hb hT hP hi_3 dX7_nextToGo_22 (fun hp_4 => ?_)
        obtain ⟨k_5, ek_5⟩ : ∃ z, x4.toNatClampNeg + 1 = z := ⟨_, rfl⟩
        rw [ek_5] at hp_4 ⊢
        have hf := bnd_eq hf _ ek_5
        refine lv_astore (lv' := [(5, .ref (g.ad k_5)), (1, va_rf (x1.map g.ad)), (2, .ref (g.ad 97)), (3, .int x3), (4, .int x4)]) hx hb dX7_nextToGo_23 hl (by decide) rfl (fun ls hl => ?_)
        refine lv_aload hx hb dX7_nextToGo_25 (lv_at hl 0 rfl) ?_
        refine r_get hx hb hts i_X2 hown hT hP (inP hp_4) (fs := (fsP g k_5)) (obP hp_4) rfl 7 (by decide) q131 (fun _ h9 => h9) rfl dX7_nextToGo_27 ?_
        refine lv_iconst (v := (-1)) hx hb dX7_nextToGo_30 (by decide) ?_
        refine lv_icmp_eq (tgt := 50) hx hb dX7_nextToGo_31 (by decide) (fun c_6 => ?_) (fun c_6 => ?_)
        · have hf := (if_pos c_6).symm.trans hf
          refine lv_iinc (v := x4 + 1) (lv' := [(4, .int (x4 + 1)), (5, .ref (g.ad k_5)), (1, va_rf (x1.map g.ad)), (2, .ref (g.ad 97)), (3, .int x3)]) hx hb dX7_nextToGo_50 hl (k := 4) rfl rfl (by decide) rfl (fun ls hl => ?_)
          refine lv_goto (tgt := 13) hx hb dX7_nextToGo_53 (by decide) ?_
          exact ih μ x1 x3 (x4 + 1) _ _ _ hP hS (lv_sub hl [2, 3, 4, 0] rfl)  hf
        · have hf := (if_neg c_6).symm.trans hf
          cases x1 with
          | none =>
            have hl : lv_has ls 6 [(5, .ref (g.ad k_5)), (1, .null), (2, .ref (g.ad 97)), (3, .int x3), (4, .int x4)] := hl
            dsimp only [csQ] at hf
            refine lv_aload_nN hx hb dX7_nextToGo_34 rfl (lv_at hl 1 rfl) ?_
            refine lv_ifnullN (tgt := 47) hx hb dX7_nextToGo_35 (by decide) ?_
            refine lv_aload hx hb dX7_nextToGo_47 (lv_at hl 0 rfl) ?_
            refine lv_astore_n (lv' := [(1, .ref (g.ad k_5)), (5, .ref (g.ad k_5)), (2, .ref (g.ad 97)), (3, .int x3), (4, .int x4)]) hx hb dX7_nextToGo_49 rfl hl (by decide) rfl (fun ls hl => ?_)
            refine lv_iinc (v := x4 + 1) (lv' := [(4, .int (x4 + 1)), (1, .ref (g.ad k_5)), (5, .ref (g.ad k_5)), (2, .ref (g.ad 97)), (3, .int x3)]) hx hb dX7_nextToGo_50 hl (k := 4) rfl rfl (by decide) rfl (fun ls hl => ?_)
            refine lv_goto (tgt := 13) hx hb dX7_nextToGo_53 (by decide) ?_
            exact ih μ (some k_5) x3 (x4 + 1) _ _ _ hP hS (lv_sub hl [1, 3, 4, 0] rfl)  hf
          | some o_7 =>
            have hl : lv_has ls 6 [(5, .ref (g.ad k_5)), (1, .ref (g.ad o_7)), (2, .ref (g.ad 97)), (3, .int x3), (4, .int x4)] := hl
            dsimp only [csQ] at hf
            obtain ⟨ho_7, hf⟩ := grd_some hf
            refine lv_aload_n hx hb dX7_nextToGo_34 rfl (lv_at hl 1 rfl) ?_
            refine lv_ifnull hx hb dX7_nextToGo_35 ?_
            refine lv_aload hx hb dX7_nextToGo_38 (lv_at hl 0 rfl) ?_
            refine lv_aload_n hx hb dX7_nextToGo_40 rfl (lv_at hl 1 rfl) ?_
            obtain ⟨r_8, hc_9, hf⟩ := bnO_some hf
            refine va_calli (va_runV (As := [.ref (g.ad o_7)]) (rest := []) ⟨hx, hb, hml, hown, hts⟩ (c_X2_goesBefore l hg μ k_5 o_7 hp_4 ho_7 hc_9) (cwV 1 hts (gd_V q397 q398 q399 q42 q400) rfl rfl rfl hd_X2_goesBefore ⟨Nat.le_of_ble_eq_true rfl, Nat.le_of_ble_eq_true rfl⟩) ⟨Pz.blind, r_recv hT hP (inP hp_4) (fs := (fsP g k_5)) (obP hp_4) rfl, fun U hU hW => ⟨rfl, Tb.warm hW hT, by rw [hU]; exact hP⟩⟩ rfl rfl hl.1 rfl (lv_room (Nat.le_of_ble_eq_true rfl)) dX7_nextToGo_41 ⟨Nat.le_of_ble_eq_true rfl, Nat.le_of_ble_eq_true rfl⟩) hS (fun q _ h => h.elim) (fun q h => h.elim) (fun v9 u9 t9 H locs ht9 hvm9 hw9 hB9 hz9 hk9 hS => ?_)
            have hP := Rg.keep hP (fun q h => hk9 q h id)
            rw [hw9]
            refine lv_if_eq (tgt := 50) hx hb dX7_nextToGo_44 (by decide) (fun c_10 => ?_) (fun c_10 => ?_)
            · have hf := (if_pos c_10).symm.trans hf
              refine lv_iinc (v := x4 + 1) (lv' := [(4, .int (x4 + 1)), (5, .ref (g.ad k_5)), (1, .ref (g.ad o_7)), (2, .ref (g.ad 97)), (3, .int x3)]) hx hb dX7_nextToGo_50 hl (k := 4) rfl rfl (by decide) rfl (fun ls hl => ?_)
              refine lv_goto (tgt := 13) hx hb dX7_nextToGo_53 (by decide) ?_
              exact ih μ (some o_7) x3 (x4 + 1) _ _ _ hP hS (lv_sub hl [2, 3, 4, 0] rfl)  hf
            · have hf := (if_neg c_10).symm.trans hf
              refine lv_aload hx hb dX7_nextToGo_47 (lv_at hl 0 rfl) ?_
              refine lv_astore_n (lv' := [(1, .ref (g.ad k_5)), (5, .ref (g.ad k_5)), (2, .ref (g.ad 97)), (3, .int x3), (4, .int x4)]) hx hb dX7_nextToGo_49 rfl hl (by decide) rfl (fun ls hl => ?_)
              refine lv_iinc (v := x4 + 1) (lv' := [(4, .int (x4 + 1)), (1, .ref (g.ad k_5)), (5, .ref (g.ad k_5)), (2, .ref (g.ad 97)), (3, .int x3)]) hx hb dX7_nextToGo_50 hl (k := 4) rfl rfl (by decide) rfl (fun ls hl => ?_)
              refine lv_goto (tgt := 13) hx hb dX7_nextToGo_53 (by decide) ?_
              exact ih μ (some k_5) x3 (x4 + 1) _ _ _ hP hS (lv_sub hl [1, 3, 4, 0] rfl)  hf
  have hl := lv_entry ([.ref (g.ad 0)]) (n := 6) (Nat.le_of_ble_eq_true rfl)
  rw [lg_entry_eq]
  generalize (lg_sl ([.ref (g.ad 0)]) ++ List.replicate (6 - (lg_sl ([.ref (g.ad 0)])).length) Slot.unset).toArray = ls at hl ⊢
  have hl : lv_has ls 6 [(0, .ref (g.ad 0))] := hl
  unfold f_X7_nextToGo at hf
  refine lv_null hx hb dX7_nextToGo_0 ?_
  refine lv_astore_nN (lv' := [(1, .null), (0, .ref (g.ad 0))]) hx hb dX7_nextToGo_1 rfl hl (by decide) rfl (fun ls hl => ?_)
  refine lv_aload_n hx hb dX7_nextToGo_2 rfl (lv_at hl 1 rfl) ?_
  refine r_get hx hb hts i_X7 hown hT hP inW (fs := (fsW g)) (obW g) rfl 4 (by decide) q194 (fun _ h9 => h9) rfl dX7_nextToGo_3 ?_
  refine lv_astore_n (lv' := [(2, .ref (g.ad 97)), (1, .null), (0, .ref (g.ad 0))]) hx hb dX7_nextToGo_6 rfl hl (by decide) rfl (fun ls hl => ?_)
  refine lv_aload_n hx hb dX7_nextToGo_7 rfl (lv_at hl 0 rfl) ?_
  refine r_alenP hx hb hT hP dX7_nextToGo_8 ?_
  refine lv_istore_n (lv' := [(3, .int 24), (2, .ref (g.ad 97)), (1, .null), (0, .ref (g.ad 0))]) hx hb dX7_nextToGo_9 rfl hl (by decide) rfl (fun ls hl => ?_)
  refine lv_iconst (v := 0) hx hb dX7_nextToGo_10 (by decide) ?_
  refine lv_istore (lv' := [(4, .int 0), (3, .int 24), (2, .ref (g.ad 97)), (1, .null), (0, .ref (g.ad 0))]) hx hb dX7_nextToGo_11 hl (by decide) rfl (fun ls hl => ?_)
  exact L13 fu μ none 24 0 _ _ _ hP hS (lv_sub hl [3, 2, 1, 0] rfl)  hf
/-- "Sandglass$World" "hasEventBy" "(I)Z" -/
def f_X7_hasEventBy (g : Geo) (μ : Mem) (en : Int32) : Option (Int32) := bnO (f_X7_nextToGo g μ ) fun r_1 => csQ r_1 (some 0) (fun o_3 => grd (1 ≤ o_3 ∧ o_3 < 25) (if en < (μ o_3 7) then (some 0) else (some 1)))
theorem hd_X7_hasEventBy : yX7_hasEventBy.cls = RX7 ∧ yX7_hasEventBy.cls ≠ "java/lang/invoke/MethodHandle" ∧ yX7_hasEventBy.cls ≠ "java/lang/invoke/VarHandle" ∧ (parseMethodDescriptor yX7_hasEventBy.desc).map (fun d => d.parameters.length) = some 1 := by decide +kernel
set_option maxHeartbeats 4000000 in
set_option maxRecDepth 100000 in
theorem c_X7_hasEventBy (l : Launch) {g : Geo} (hg : Good g) (μ : Mem) (en : Int32) {r : Int32} (hf : f_X7_hasEventBy g μ en = some r) : Met l yX7_hasEventBy (ws_ yX7_hasEventBy cX7_hasEventBy 3 (some .boolean)) (rm_ 2 46 0 0) (Pz g [.ref (g.ad 0), .int en] (Rg g μ)) (va_Qi (fun (v : Int32) (_ : Unit) => v = r) (fun _ _ => True) (fun _ => False)) 0 0 (fun _ => False) := by
  refine Met.ofW (cc := cX7_hasEventBy) (maxL := 3) (ret := (some .boolean)) (by decide) rfl ?_
  intro p e s m args below meth c s₁ B hml hv
  obtain ⟨rfl, hT, hP⟩ := hv
  have hx := B.exec
  have hb := B.bytes
  have hr := B.returns
  have hts : ∀ w ∈ lw_all, w.before _ s = true := fun w h => atoms_spec (ws := (ws_ yX7_hasEventBy cX7_hasEventBy 3 (some .boolean))) B.pre w (List.mem_cons_of_mem _ h)
  have hown : s.vm.findClass RX7 = some m.cls := findClass_of_methodNamed B.named
  have hlocks := B.notSynchronized
  have hS : va_S (fun _ => False) s.heap s.heap [] := va_S.rf
  have hl := lv_entry ([.ref (g.ad 0), .int en]) (n := 3) (Nat.le_of_ble_eq_true rfl)
  rw [lg_entry_eq]
  generalize (lg_sl ([.ref (g.ad 0), .int en]) ++ List.replicate (3 - (lg_sl ([.ref (g.ad 0), .int en])).length) Slot.unset).toArray = ls at hl ⊢
  have hl : lv_has ls 3 [(0, .ref (g.ad 0)), (1, .int en)] := hl
  unfold f_X7_hasEventBy at hf
  refine lv_aload_n hx hb dX7_hasEventBy_0 rfl (lv_at hl 0 rfl) ?_
  obtain ⟨r_1, hc_2, hf⟩ := bnO_some hf
  refine va_callq (va_runV (As := []) (rest := []) ⟨hx, hb, hml, hown, hts⟩ (c_X7_nextToGo l hg μ   hc_2) (cwV 0 hts (gd_V q393 q394 q395 q41 q396) rfl rfl rfl hd_X7_nextToGo ⟨Nat.le_of_ble_eq_true rfl, Nat.le_of_ble_eq_true rfl⟩) ⟨Pz.blind, r_recv hT hP inW (fs := (fsW g)) (obW g) rfl, fun U hU hW => ⟨rfl, Tb.warm hW hT, by rw [hU]; exact hP⟩⟩ rfl rfl hl.1 rfl (lv_room (Nat.le_of_ble_eq_true rfl)) dX7_hasEventBy_1 ⟨Nat.le_of_ble_eq_true rfl, Nat.le_of_ble_eq_true rfl⟩) hS (fun q _ h => h.elim) (fun q h => h.elim) (fun v9 u9 t9 H locs ht9 hvm9 hw9 hB9 hz9 hk9 hS => ?_)
  have hP := Rg.keep hP (fun q h => hk9 q h id)
  rw [hw9]
  cases r_1 with
  | none =>
    dsimp only [csQ] at hf
    refine W.eq (g2 := F0 m 4 ls [.null]) rfl ?_
    refine lv_astore_nN (lv' := [(2, .null), (0, .ref (g.ad 0)), (1, .int en)]) hx hb dX7_hasEventBy_4 rfl hl (by decide) rfl (fun ls hl => ?_)
    refine lv_aload_nN hx hb dX7_hasEventBy_5 rfl (lv_at hl 0 rfl) ?_
    refine lv_ifnullN (tgt := 21) hx hb dX7_hasEventBy_6 (by decide) ?_
    refine lv_iconst (v := 0) hx hb dX7_hasEventBy_21 (by decide) ?_
    exact W.zret (v := 0) (ty := .boolean) hx hb hr (by decide) (fun t9 ht hW => ⟨⟨0, (), rfl, Option.some.inj hf, trivial⟩, hS.F ht⟩) hS.2.2 dX7_hasEventBy_22
  | some o_3 =>
    dsimp only [csQ] at hf
    obtain ⟨ho_3, hf⟩ := grd_some hf
    refine W.eq (g2 := F0 m 4 ls [.ref (g.ad o_3)]) rfl ?_
    refine lv_astore_n (lv' := [(2, .ref (g.ad o_3)), (0, .ref (g.ad 0)), (1, .int en)]) hx hb dX7_hasEventBy_4 rfl hl (by decide) rfl (fun ls hl => ?_)
    refine lv_aload_n hx hb dX7_hasEventBy_5 rfl (lv_at hl 0 rfl) ?_
    refine lv_ifnull hx hb dX7_hasEventBy_6 ?_
    refine lv_aload_n hx hb dX7_hasEventBy_9 rfl (lv_at hl 0 rfl) ?_
    refine r_get hx hb hts i_X2 hown hT hP (inP ho_3) (fs := (fsP g o_3)) (obP ho_3) rfl 7 (by decide) q131 (fun _ h9 => h9) rfl dX7_hasEventBy_10 ?_
    refine lv_iload_n hx hb dX7_hasEventBy_13 rfl (lv_at hl 2 rfl) ?_
    refine lv_icmp_gt (tgt := 21) hx hb dX7_hasEventBy_14 (by decide) (fun c_4 => ?_) (fun c_4 => ?_)
    · have hf := (if_pos c_4).symm.trans hf
      refine lv_iconst (v := 0) hx hb dX7_hasEventBy_21 (by decide) ?_
      exact W.zret (v := 0) (ty := .boolean) hx hb hr (by decide) (fun t9 ht hW => ⟨⟨0, (), rfl, Option.some.inj hf, trivial⟩, hS.F ht⟩) hS.2.2 dX7_hasEventBy_22
    · have hf := (if_neg c_4).symm.trans hf
      refine lv_iconst (v := 1) hx hb dX7_hasEventBy_17 (by decide) ?_
      refine lv_goto (tgt := 22) hx hb dX7_hasEventBy_18 (by decide) ?_
      exact W.zret (v := 1) (ty := .boolean) hx hb hr (by decide) (fun t9 ht hW => ⟨⟨1, (), rfl, Option.some.inj hf, trivial⟩, hS.F ht⟩) hS.2.2 dX7_hasEventBy_22
/-- "Sandglass$World" "countBefore" "(LSandglass$Proc;)I" -/
def b_X7_countBefore_14 (g : Geo) : Nat → Mem → Nat → Int32 → Int32 → Int32 → Option (Int32)
  | 0, _, _, _, _, _ => none
  | n + 1, μ, x1, x2, x4, x5 => if x4 ≤ x5 then (some x2) else (grd (¬ (x5 < 0 ∨ 24 ≤ x5.toNatClampNeg)) (bnd (x5.toNatClampNeg + 1) fun k_4 => if (μ k_4 9) = (μ x1 9) then (bnO (f_X2_standsBefore g μ k_4 x1) fun r_6 => if r_6 = 0 then (b_X7_countBefore_14 g n μ x1 x2 x4 (x5 + 1)) else (b_X7_countBefore_14 g n μ x1 (x2 + 1) x4 (x5 + 1))) else (b_X7_countBefore_14 g n μ x1 x2 x4 (x5 + 1))))
def f_X7_countBefore (g : Geo) (μ : Mem) (q : Nat) : Option (Int32) := b_X7_countBefore_14 g fu μ q 0 24 0
theorem hd_X7_countBefore : yX7_countBefore.cls = RX7 ∧ yX7_countBefore.cls ≠ "java/lang/invoke/MethodHandle" ∧ yX7_countBefore.cls ≠ "java/lang/invoke/VarHandle" ∧ (parseMethodDescriptor yX7_countBefore.desc).map (fun d => d.parameters.length) = some 1 := by decide +kernel
set_option maxHeartbeats 4000000 in
set_option maxRecDepth 100000 in
theorem c_X7_countBefore (l : Launch) {g : Geo} (hg : Good g) (μ : Mem) (q : Nat) (hq : isP q) {r : Int32} (hf : f_X7_countBefore g μ q = some r) : Met l yX7_countBefore (ws_ yX7_countBefore cX7_countBefore 7 (some .int)) (rm_ 1 21 0 0) (Pz g [.ref (g.ad 0), .ref (g.ad q)] (Rg g μ)) (va_Qi (fun (v : Int32) (_ : Unit) => v = r) (fun _ _ => True) (fun _ => False)) 0 0 (fun _ => False) := by
  refine Met.ofW (cc := cX7_countBefore) (maxL := 7) (ret := (some .int)) (by decide) rfl ?_
  intro p e s m args below meth c s₁ B hml hv
  obtain ⟨rfl, hT, hP⟩ := hv
  have hx := B.exec
  have hb := B.bytes
  have hr := B.returns
  have hts : ∀ w ∈ lw_all, w.before _ s = true := fun w h => atoms_spec (ws := (ws_ yX7_countBefore cX7_countBefore 7 (some .int))) B.pre w (List.mem_cons_of_mem _ h)
  have hown : s.vm.findClass RX7 = some m.cls := findClass_of_methodNamed B.named
  have hlocks := B.notSynchronized
  have hS : va_S (fun _ => False) s.heap s.heap [] := va_S.rf
  have L14 : ∀ (n : Nat) (μ : Mem) (x1 : Nat) (x2 : Int32) (x4 : Int32) (x5 : Int32) (H : Heap) (locs : List Loc) (ls : Array Slot), Rg g μ H → va_S (fun _ => False) s.heap H locs → lv_has ls 7 [(1, .ref (g.ad x1)), (2, .int x2), (3, .ref (g.ad 97)), (4, .int x4), (5, .int x5)] → isP x1 → b_X7_countBefore_14 g n μ x1 x2 x4 x5 = some r → W p l e (headSpec (ws_ yX7_countBefore cX7_countBefore 7 (some .int)) (rm_ 1 21 0 0)).room s m ([.ref (g.ad 0), .ref (g.ad q)] : List Value).toArray below meth c H locs 0 0 (MQ below (va_Qi (fun (v : Int32) (_ : Unit) => v = r) (fun _ _ => True) (fun _ => False)) ([.ref (g.ad 0), .ref (g.ad q)] : List Value).toArray s 0 0 (fun _ => False)) (F0 m 14 ls []) := by
    intro n
    induction n with
    | zero => intro μ x1 x2 x4 x5 H locs ls hP hS hl hx1 hf; cases hf
    | succ n ih =>
      intro μ x1 x2 x4 x5 H locs ls hP hS hl hx1 hf
      rw [b_X7_countBefore_14] at hf
      refine lv_iload hx hb dX7_countBefore_14 (lv_at hl 4 rfl) ?_
      refine lv_iload hx hb dX7_countBefore_16 (lv_at hl 3 rfl) ?_
      refine lv_icmp_ge (tgt := 57) hx hb dX7_countBefore_18 (by decide) (fun c_1 => ?_) (fun c_1 => ?_)
      · have hf := (if_pos c_1).symm.trans hf
        refine lv_iload_n hx hb dX7_countBefore_57 rfl (lv_at hl 1 rfl) ?_
        exact W.iret (v := x2) hx hb hr (fun t9 ht hW => ⟨⟨x2, (), rfl, Option.some.inj hf, trivial⟩, hS.F ht⟩) hS.2.2 dX7_countBefore_58
      · have hf := (if_neg c_1).symm.trans hf
        refine lv_aload_n hx hb dX7_countBefore_21 rfl (lv_at hl 2 rfl) ?_
        refine lv_iload hx hb dX7_countBefore_22 (lv_at hl 4 rfl) ?_
        obtain ⟨hi_2, hf⟩ := grd_some hf
        refine r_aaldP hx hb hT hP hi_2 dX7_countBefore_24 (fun hp_3 => ?_)
        obtain ⟨k_4, ek_4⟩ : ∃ z, x5.toNatClampNeg + 1 = z := ⟨_, rfl⟩
        rw [ek_4] at hp_3 ⊢
        have hf := bnd_eq hf _ ek_4
        refine lv_astore (lv' := [(6, .ref (g.ad k_4)), (1, .ref (g.ad x1)), (2, .int x2), (3, .ref (g.ad 97)), (4, .int x4), (5, .int x5)]) hx hb dX7_countBefore_25 hl (by decide) rfl (fun ls hl => ?_)
        refine lv_aload hx hb dX7_countBefore_27 (lv_at hl 0 rfl) ?_
        refine r_get hx hb hts i_X2 hown hT hP (inP hp_3) (fs := (fsP g k_4)) (obP hp_3) rfl 9 (by decide) q136 (fun _ h9 => h9) rfl dX7_countBefore_29 ?_
        refine lv_aload_n hx hb dX7_countBefore_32 rfl (lv_at hl 1 rfl) ?_
        refine r_get hx hb hts i_X2 hown hT hP (inP hx1) (fs := (fsP g x1)) (obP hx1) rfl 9 (by decide) q136 (fun _ h9 => h9) rfl dX7_countBefore_33 ?_
        refine lv_icmp_ne (tgt := 51) hx hb dX7_countBefore_36 (by decide) (fun c_5 => ?_) (fun c_5 => ?_)
        · have hf := (if_neg c_5).symm.trans hf
          refine lv_iinc (v := x5 + 1) (lv' := [(5, .int (x5 + 1)), (6, .ref (g.ad k_4)), (1, .ref (g.ad x1)), (2, .int x2), (3, .ref (g.ad 97)), (4, .int x4)]) hx hb dX7_countBefore_51 hl (k := 5) rfl rfl (by decide) rfl (fun ls hl => ?_)
          refine lv_goto (tgt := 14) hx hb dX7_countBefore_54 (by decide) ?_
          exact ih μ x1 x2 x4 (x5 + 1) _ _ _ hP hS (lv_sub hl [2, 3, 4, 5, 0] rfl) hx1 hf
        · have hf := (if_pos c_5).symm.trans hf
          refine lv_aload hx hb dX7_countBefore_39 (lv_at hl 0 rfl) ?_
          refine lv_aload_n hx hb dX7_countBefore_41 rfl (lv_at hl 1 rfl) ?_
          obtain ⟨r_6, hc_7, hf⟩ := bnO_some hf
          refine va_calli (va_runV (As := [.ref (g.ad x1)]) (rest := []) ⟨hx, hb, hml, hown, hts⟩ (c_X2_standsBefore l hg μ k_4 x1 hp_3 hx1 hc_7) (cwV 1 hts (gd_V q450 q451 q452 q42 q453) rfl rfl rfl hd_X2_standsBefore ⟨Nat.le_of_ble_eq_true rfl, Nat.le_of_ble_eq_true rfl⟩) ⟨Pz.blind, r_recv hT hP (inP hp_3) (fs := (fsP g k_4)) (obP hp_3) rfl, fun U hU hW => ⟨rfl, Tb.warm hW hT, by rw [hU]; exact hP⟩⟩ rfl rfl hl.1 rfl (lv_room (Nat.le_of_ble_eq_true rfl)) dX7_countBefore_42 ⟨Nat.le_of_ble_eq_true rfl, Nat.le_of_ble_eq_true rfl⟩) hS (fun q _ h => h.elim) (fun q h => h.elim) (fun v9 u9 t9 H locs ht9 hvm9 hw9 hB9 hz9 hk9 hS => ?_)
          have hP := Rg.keep hP (fun q h => hk9 q h id)
          rw [hw9]
          refine lv_if_eq (tgt := 51) hx hb dX7_countBefore_45 (by decide) (fun c_8 => ?_) (fun c_8 => ?_)
          · have hf := (if_pos c_8).symm.trans hf
            refine lv_iinc (v := x5 + 1) (lv' := [(5, .int (x5 + 1)), (6, .ref (g.ad k_4)), (1, .ref (g.ad x1)), (2, .int x2), (3, .ref (g.ad 97)), (4, .int x4)]) hx hb dX7_countBefore_51 hl (k := 5) rfl rfl (by decide) rfl (fun ls hl => ?_)
            refine lv_goto (tgt := 14) hx hb dX7_countBefore_54 (by decide) ?_
            exact ih μ x1 x2 x4 (x5 + 1) _ _ _ hP hS (lv_sub hl [2, 3, 4, 5, 0] rfl) hx1 hf
          · have hf := (if_neg c_8).symm.trans hf
            refine lv_iinc (v := x2 + 1) (lv' := [(2, .int (x2 + 1)), (6, .ref (g.ad k_4)), (1, .ref (g.ad x1)), (3, .ref (g.ad 97)), (4, .int x4), (5, .int x5)]) hx hb dX7_countBefore_48 hl (k := 2) rfl rfl (by decide) rfl (fun ls hl => ?_)
            refine lv_iinc (v := x5 + 1) (lv' := [(5, .int (x5 + 1)), (2, .int (x2 + 1)), (6, .ref (g.ad k_4)), (1, .ref (g.ad x1)), (3, .ref (g.ad 97)), (4, .int x4)]) hx hb dX7_countBefore_51 hl (k := 5) rfl rfl (by decide) rfl (fun ls hl => ?_)
            refine lv_goto (tgt := 14) hx hb dX7_countBefore_54 (by decide) ?_
            exact ih μ x1 (x2 + 1) x4 (x5 + 1) _ _ _ hP hS (lv_sub hl [3, 1, 4, 5, 0] rfl) hx1 hf
  have hl := lv_entry ([.ref (g.ad 0), .ref (g.ad q)]) (n := 7) (Nat.le_of_ble_eq_true rfl)
  rw [lg_entry_eq]
  generalize (lg_sl ([.ref (g.ad 0), .ref (g.ad q)]) ++ List.replicate (7 - (lg_sl ([.ref (g.ad 0), .ref (g.ad q)])).length) Slot.unset).toArray = ls at hl ⊢
  have hl : lv_has ls 7 [(0, .ref (g.ad 0)), (1, .ref (g.ad q))] := hl
  unfold f_X7_countBefore at hf
  refine lv_iconst (v := 0) hx hb dX7_countBefore_0 (by decide) ?_
  refine lv_istore_n (lv' := [(2, .int 0), (0, .ref (g.ad 0)), (1, .ref (g.ad q))]) hx hb dX7_countBefore_1 rfl hl (by decide) rfl (fun ls hl => ?_)
  refine lv_aload_n hx hb dX7_countBefore_2 rfl (lv_at hl 1 rfl) ?_
  refine r_get hx hb hts i_X7 hown hT hP inW (fs := (fsW g)) (obW g) rfl 4 (by decide) q194 (fun _ h9 => h9) rfl dX7_countBefore_3 ?_
  refine lv_astore_n (lv' := [(3, .ref (g.ad 97)), (2, .int 0), (0, .ref (g.ad 0)), (1, .ref (g.ad q))]) hx hb dX7_countBefore_6 rfl hl (by decide) rfl (fun ls hl => ?_)
  refine lv_aload_n hx hb dX7_countBefore_7 rfl (lv_at hl 0 rfl) ?_
  refine r_alenP hx hb hT hP dX7_countBefore_8 ?_
  refine lv_istore (lv' := [(4, .int 24), (3, .ref (g.ad 97)), (2, .int 0), (0, .ref (g.ad 0)), (1, .ref (g.ad q))]) hx hb dX7_countBefore_9 hl (by decide) rfl (fun ls hl => ?_)
  refine lv_iconst (v := 0) hx hb dX7_countBefore_11 (by decide) ?_
  refine lv_istore (lv' := [(5, .int 0), (4, .int 24), (3, .ref (g.ad 97)), (2, .int 0), (0, .ref (g.ad 0)), (1, .ref (g.ad q))]) hx hb dX7_countBefore_12 hl (by decide) rfl (fun ls hl => ?_)
  exact L14 fu μ q 0 24 0 _ _ _ hP hS (lv_sub hl [5, 3, 2, 1, 0] rfl) hq hf
/-- "Sandglass$World" "inRowAt" "(II)LSandglass$Proc;" -/
def b_X7_inRowAt_12 (g : Geo) : Nat → Mem → Int32 → Int32 → Int32 → Int32 → Option ((Option Nat))
  | 0, _, _, _, _, _ => none
  | n + 1, μ, x1, x2, x4, x5 => if x4 ≤ x5 then (some (none)) else (grd (¬ (x5 < 0 ∨ 24 ≤ x5.toNatClampNeg)) (bnd (x5.toNatClampNeg + 1) fun k_4 => if (μ k_4 9) = x1 then (bnO (f_X7_countBefore g μ k_4) fun r_6 => if r_6 = x2 then (some (some k_4)) else (b_X7_inRowAt_12 g n μ x1 x2 x4 (x5 + 1))) else (b_X7_inRowAt_12 g n μ x1 x2 x4 (x5 + 1))))
def f_X7_inRowAt (g : Geo) (μ : Mem) (row : Int32) (pl : Int32) : Option ((Option Nat)) := b_X7_inRowAt_12 g fu μ row pl 24 0
theorem hd_X7_inRowAt : yX7_inRowAt.cls = RX7 ∧ yX7_inRowAt.cls ≠ "java/lang/invoke/MethodHandle" ∧ yX7_inRowAt.cls ≠ "java/lang/invoke/VarHandle" ∧ (parseMethodDescriptor yX7_inRowAt.desc).map (fun d => d.parameters.length) = some 2 := by decide +kernel
set_option maxHeartbeats 4000000 in
set_option maxRecDepth 100000 in
theorem c_X7_inRowAt (l : Launch) {g : Geo} (hg : Good g) (μ : Mem) (row : Int32) (pl : Int32) {r : (Option Nat)} (hf : f_X7_inRowAt g μ row pl = some r) : Met l yX7_inRowAt (ws_ yX7_inRowAt cX7_inRowAt 7 (some (.object "Sandglass$Proc"))) (rm_ 2 47 0 0) (Pz g [.ref (g.ad 0), .int row, .int pl] (Rg g μ)) (va_Qq (fun (v : Option Nat) (_ : Unit) => v = r.map g.ad) (fun _ _ => True) (fun _ => False)) 0 0 (fun _ => False) := by
  refine Met.ofW (cc := cX7_inRowAt) (maxL := 7) (ret := (some (.object "Sandglass$Proc"))) (by decide) rfl ?_
  intro p e s m args below meth c s₁ B hml hv
  obtain ⟨rfl, hT, hP⟩ := hv
  have hx := B.exec
  have hb := B.bytes
  have hr := B.returns
  have hts : ∀ w ∈ lw_all, w.before _ s = true := fun w h => atoms_spec (ws := (ws_ yX7_inRowAt cX7_inRowAt 7 (some (.object "Sandglass$Proc")))) B.pre w (List.mem_cons_of_mem _ h)
  have hown : s.vm.findClass RX7 = some m.cls := findClass_of_methodNamed B.named
  have hlocks := B.notSynchronized
  have hS : va_S (fun _ => False) s.heap s.heap [] := va_S.rf
  have L12 : ∀ (n : Nat) (μ : Mem) (x1 : Int32) (x2 : Int32) (x4 : Int32) (x5 : Int32) (H : Heap) (locs : List Loc) (ls : Array Slot), Rg g μ H → va_S (fun _ => False) s.heap H locs → lv_has ls 7 [(0, .ref (g.ad 0)), (1, .int x1), (2, .int x2), (3, .ref (g.ad 97)), (4, .int x4), (5, .int x5)] → b_X7_inRowAt_12 g n μ x1 x2 x4 x5 = some r → W p l e (headSpec (ws_ yX7_inRowAt cX7_inRowAt 7 (some (.object "Sandglass$Proc"))) (rm_ 2 47 0 0)).room s m ([.ref (g.ad 0), .int row, .int pl] : List Value).toArray below meth c H locs 0 0 (MQ below (va_Qq (fun (v : Option Nat) (_ : Unit) => v = r.map g.ad) (fun _ _ => True) (fun _ => False)) ([.ref (g.ad 0), .int row, .int pl] : List Value).toArray s 0 0 (fun _ => False)) (F0 m 12 ls []) := by
    intro n
    induction n with
    | zero => intro μ x1 x2 x4 x5 H locs ls hP hS hl  hf; cases hf
    | succ n ih =>
      intro μ x1 x2 x4 x5 H locs ls hP hS hl  hf
      rw [b_X7_inRowAt_12] at hf
      refine lv_iload hx hb dX7_inRowAt_12 (lv_at hl 5 rfl) ?_
      refine lv_iload hx hb dX7_inRowAt_14 (lv_at hl 4 rfl) ?_
      refine lv_icmp_ge (tgt := 53) hx hb dX7_inRowAt_16 (by decide) (fun c_1 => ?_) (fun c_1 => ?_)
      · have hf := (if_pos c_1).symm.trans hf
        refine lv_null hx hb dX7_inRowAt_53 ?_
        exact W.aret (v := .null) (rt := .object "Sandglass$Proc") hx hb hr (Or.inl ⟨_, rfl⟩) (Or.inl rfl) (fun t9 ht hW => ⟨⟨none, (), rfl, by rw [← Option.some.inj hf]; rfl, trivial⟩, hS.F ht⟩) hS.2.2 dX7_inRowAt_54
      · have hf := (if_neg c_1).symm.trans hf
        refine lv_aload_n hx hb dX7_inRowAt_19 rfl (lv_at hl 3 rfl) ?_
        refine lv_iload hx hb dX7_inRowAt_20 (lv_at hl 5 rfl) ?_
        obtain ⟨hi_2, hf⟩ := grd_some hf
        refine r_aaldP hx hb hT hP hi_2 dX7_inRowAt_22 (fun hp_3 => ?_)
        obtain ⟨k_4, ek_4⟩ : ∃ z, x5.toNatClampNeg + 1 = z := ⟨_, rfl⟩
        rw [ek_4] at hp_3 ⊢
        have hf := bnd_eq hf _ ek_4
        refine lv_astore (lv' := [(6, .ref (g.ad k_4)), (0, .ref (g.ad 0)), (1, .int x1), (2, .int x2), (3, .ref (g.ad 97)), (4, .int x4), (5, .int x5)]) hx hb dX7_inRowAt_23 hl (by decide) rfl (fun ls hl => ?_)
        refine lv_aload hx hb dX7_inRowAt_25 (lv_at hl 0 rfl) ?_
        refine r_get hx hb hts i_X2 hown hT hP (inP hp_3) (fs := (fsP g k_4)) (obP hp_3) rfl 9 (by decide) q136 (fun _ h9 => h9) rfl dX7_inRowAt_27 ?_
        refine lv_iload_n hx hb dX7_inRowAt_30 rfl (lv_at hl 2 rfl) ?_
        refine lv_icmp_ne (tgt := 47) hx hb dX7_inRowAt_31 (by decide) (fun c_5 => ?_) (fun c_5 => ?_)
        · have hf := (if_neg c_5).symm.trans hf
          refine lv_iinc (v := x5 + 1) (lv' := [(5, .int (x5 + 1)), (6, .ref (g.ad k_4)), (0, .ref (g.ad 0)), (1, .int x1), (2, .int x2), (3, .ref (g.ad 97)), (4, .int x4)]) hx hb dX7_inRowAt_47 hl (k := 6) rfl rfl (by decide) rfl (fun ls hl => ?_)
          refine lv_goto (tgt := 12) hx hb dX7_inRowAt_50 (by decide) ?_
          exact ih μ x1 x2 x4 (x5 + 1) _ _ _ hP hS (lv_sub hl [2, 3, 4, 5, 6, 0] rfl)  hf
        · have hf := (if_pos c_5).symm.trans hf
          refine lv_aload_n hx hb dX7_inRowAt_34 rfl (lv_at hl 1 rfl) ?_
          refine lv_aload hx hb dX7_inRowAt_35 (lv_at hl 0 rfl) ?_
          obtain ⟨r_6, hc_7, hf⟩ := bnO_some hf
          refine va_calli (va_runV (As := [.ref (g.ad k_4)]) (rest := []) ⟨hx, hb, hml, hown, hts⟩ (c_X7_countBefore l hg μ k_4 hp_3 hc_7) (cwV 1 hts (gd_V q866 q868 q31 q41 q869) rfl rfl rfl hd_X7_countBefore ⟨Nat.le_of_ble_eq_true rfl, Nat.le_of_ble_eq_true rfl⟩) ⟨Pz.blind, r_recv hT hP inW (fs := (fsW g)) (obW g) rfl, fun U hU hW => ⟨rfl, Tb.warm hW hT, by rw [hU]; exact hP⟩⟩ rfl rfl hl.1 rfl (lv_room (Nat.le_of_ble_eq_true rfl)) dX7_inRowAt_37 ⟨Nat.le_of_ble_eq_true rfl, Nat.le_of_ble_eq_true rfl⟩) hS (fun q _ h => h.elim) (fun q h => h.elim) (fun v9 u9 t9 H locs ht9 hvm9 hw9 hB9 hz9 hk9 hS => ?_)
          have hP := Rg.keep hP (fun q h => hk9 q h id)
          rw [hw9]
          refine lv_iload_n hx hb dX7_inRowAt_40 rfl (lv_at hl 3 rfl) ?_
          refine lv_icmp_ne (tgt := 47) hx hb dX7_inRowAt_41 (by decide) (fun c_8 => ?_) (fun c_8 => ?_)
          · have hf := (if_neg c_8).symm.trans hf
            refine lv_iinc (v := x5 + 1) (lv' := [(5, .int (x5 + 1)), (6, .ref (g.ad k_4)), (0, .ref (g.ad 0)), (1, .int x1), (2, .int x2), (3, .ref (g.ad 97)), (4, .int x4)]) hx hb dX7_inRowAt_47 hl (k := 6) rfl rfl (by decide) rfl (fun ls hl => ?_)
            refine lv_goto (tgt := 12) hx hb dX7_inRowAt_50 (by decide) ?_
            exact ih μ x1 x2 x4 (x5 + 1) _ _ _ hP hS (lv_sub hl [2, 3, 4, 5, 6, 0] rfl)  hf
          · have hf := (if_pos c_8).symm.trans hf
            refine lv_aload hx hb dX7_inRowAt_44 (lv_at hl 0 rfl) ?_
            exact W.aret (v := .ref (g.ad k_4)) (rt := .object "Sandglass$Proc") hx hb hr (Or.inl ⟨_, rfl⟩) (Or.inr ⟨_, rfl⟩) (fun t9 ht hW => ⟨⟨(some (g.ad k_4)), (), rfl, by rw [← Option.some.inj hf]; rfl, trivial⟩, hS.F ht⟩) hS.2.2 dX7_inRowAt_46
  have hl := lv_entry ([.ref (g.ad 0), .int row, .int pl]) (n := 7) (Nat.le_of_ble_eq_true rfl)
  rw [lg_entry_eq]
  generalize (lg_sl ([.ref (g.ad 0), .int row, .int pl]) ++ List.replicate (7 - (lg_sl ([.ref (g.ad 0), .int row, .int pl])).length) Slot.unset).toArray = ls at hl ⊢
  have hl : lv_has ls 7 [(0, .ref (g.ad 0)), (1, .int row), (2, .int pl)] := hl
  unfold f_X7_inRowAt at hf
  refine lv_aload_n hx hb dX7_inRowAt_0 rfl (lv_at hl 0 rfl) ?_
  refine r_get hx hb hts i_X7 hown hT hP inW (fs := (fsW g)) (obW g) rfl 4 (by decide) q194 (fun _ h9 => h9) rfl dX7_inRowAt_1 ?_
  refine lv_astore_n (lv' := [(3, .ref (g.ad 97)), (0, .ref (g.ad 0)), (1, .int row), (2, .int pl)]) hx hb dX7_inRowAt_4 rfl hl (by decide) rfl (fun ls hl => ?_)
  refine lv_aload_n hx hb dX7_inRowAt_5 rfl (lv_at hl 0 rfl) ?_
  refine r_alenP hx hb hT hP dX7_inRowAt_6 ?_
  refine lv_istore (lv' := [(4, .int 24), (3, .ref (g.ad 97)), (0, .ref (g.ad 0)), (1, .int row), (2, .int pl)]) hx hb dX7_inRowAt_7 hl (by decide) rfl (fun ls hl => ?_)
  refine lv_iconst (v := 0) hx hb dX7_inRowAt_9 (by decide) ?_
  refine lv_istore (lv' := [(5, .int 0), (4, .int 24), (3, .ref (g.ad 97)), (0, .ref (g.ad 0)), (1, .int row), (2, .int pl)]) hx hb dX7_inRowAt_10 hl (by decide) rfl (fun ls hl => ?_)
  exact L12 fu μ row pl 24 0 _ _ _ hP hS (lv_sub hl [3, 4, 5, 2, 1, 0] rfl)  hf
/-- "Sandglass$World" "drawBelow" "(I)I" -/
def f_X7_drawBelow (g : Geo) (μ : Mem) (bo : Int32) : Option (Mem × Int32) := bnd (put μ 0 7 ((((μ 0 7) * 4621) + 2777) - (((μ 0 7) * 4621) + 2777) / 10000 * 10000)) fun μ_1 => if bo ≤ 0 then (some (μ_1, 0)) else (grd (¬ bo = 0) (some (μ_1, (μ_1 0 7) - (μ_1 0 7) / bo * bo)))
theorem hd_X7_drawBelow : yX7_drawBelow.cls = RX7 ∧ yX7_drawBelow.cls ≠ "java/lang/invoke/MethodHandle" ∧ yX7_drawBelow.cls ≠ "java/lang/invoke/VarHandle" ∧ (parseMethodDescriptor yX7_drawBelow.desc).map (fun d => d.parameters.length) = some 1 := by decide +kernel
set_option maxHeartbeats 4000000 in
set_option maxRecDepth 100000 in
theorem c_X7_drawBelow (l : Launch) {g : Geo} (hg : Good g) (μ : Mem) (sz : Nat) (bo : Int32) {r : Mem × Int32} (hf : f_X7_drawBelow g μ bo = some r) : Met l yX7_drawBelow (ws_ yX7_drawBelow cX7_drawBelow 2 (some .int)) (rm_ 0 0 0 0) (Pz g [.ref (g.ad 0), .int bo] (fun H9 => H9.size = sz ∧ Rg g μ H9)) (va_Qi (fun (v : Int32) (_ : Unit) => v = r.2) (fun _ t => Rg g r.1 t.heap) (Ag g sz)) 0 0 (Ag g sz) := by
  refine Met.ofW (cc := cX7_drawBelow) (maxL := 2) (ret := (some .int)) (by decide) rfl ?_
  intro p e s m args below meth c s₁ B hml hv
  obtain ⟨rfl, hT, hsz, hP⟩ := hv
  have hx := B.exec
  have hb := B.bytes
  have hr := B.returns
  have hts : ∀ w ∈ lw_all, w.before _ s = true := fun w h => atoms_spec (ws := (ws_ yX7_drawBelow cX7_drawBelow 2 (some .int))) B.pre w (List.mem_cons_of_mem _ h)
  have hown : s.vm.findClass RX7 = some m.cls := findClass_of_methodNamed B.named
  have hlocks := B.notSynchronized
  subst hsz
  have hD := fun ν => Ag.apart hg s.heap.size ν
  have hS : va_S (Ag g s.heap.size) s.heap s.heap [] := va_S.rf
  have hl := lv_entry ([.ref (g.ad 0), .int bo]) (n := 2) (Nat.le_of_ble_eq_true rfl)
  rw [lg_entry_eq]
  generalize (lg_sl ([.ref (g.ad 0), .int bo]) ++ List.replicate (2 - (lg_sl ([.ref (g.ad 0), .int bo])).length) Slot.unset).toArray = ls at hl ⊢
  have hl : lv_has ls 2 [(0, .ref (g.ad 0)), (1, .int bo)] := hl
  unfold f_X7_drawBelow at hf
  refine lv_aload_n hx hb dX7_drawBelow_0 rfl (lv_at hl 0 rfl) ?_
  refine lv_aload_n hx hb dX7_drawBelow_1 rfl (lv_at hl 0 rfl) ?_
  refine r_get hx hb hts i_X7 hown hT hP inW (fs := (fsW g)) (obW g) rfl 7 (by decide) q199 (fun _ h9 => h9) rfl dX7_drawBelow_2 ?_
  refine lv_sipush (v := 4621) hx hb dX7_drawBelow_5 (by decide) ?_
  refine lv_imul hx hb dX7_drawBelow_8 ?_
  refine lv_sipush (v := 2777) hx hb dX7_drawBelow_9 (by decide) ?_
  refine lv_iadd hx hb dX7_drawBelow_12 ?_
  refine lv_sipush (v := 10000) hx hb dX7_drawBelow_13 (by decide) ?_
  refine lv_irem hx hb dX7_drawBelow_16 (by decide) ?_
  refine r_put hx hb hts i_X7 tyX7 tyX7_ok nmX7 hown hT hP hD hS inW (fs := (fsW g)) (obW g) rfl 7 (by decide) q199 (fun _ h9 => h9) rfl (ty := .int) (x := (((μ 0 7) * 4621) + 2777) - (((μ 0 7) * 4621) + 2777) / 10000 * 10000) rfl rfl rfl (fun _ => rfl) (Nat.le_of_ble_eq_true rfl) dX7_drawBelow_17 (fun H locs hP hS => ?_)
  obtain ⟨μ_1, eμ_1⟩ : ∃ z, put μ 0 7 ((((μ 0 7) * 4621) + 2777) - (((μ 0 7) * 4621) + 2777) / 10000 * 10000) = z := ⟨_, rfl⟩
  rw [eμ_1] at hP
  have hf := bnd_eq hf _ eμ_1
  refine lv_iload_n hx hb dX7_drawBelow_20 rfl (lv_at hl 1 rfl) ?_
  refine lv_if_le (tgt := 33) hx hb dX7_drawBelow_21 (by decide) (fun c_2 => ?_) (fun c_2 => ?_)
  · have hf := (if_pos c_2).symm.trans hf
    refine lv_iconst (v := 0) hx hb dX7_drawBelow_33 (by decide) ?_
    exact W.iret (v := 0) hx hb hr (fun t9 ht hW => ⟨⟨0, (), rfl, by show 0 = r.2; rw [← Option.some.inj hf], by show Rg g r.1 t9.heap; rw [ht, ← Option.some.inj hf]; exact hP⟩, hS.F ht⟩) hS.2.2 dX7_drawBelow_34
  · have hf := (if_neg c_2).symm.trans hf
    refine lv_aload_n hx hb dX7_drawBelow_24 rfl (lv_at hl 0 rfl) ?_
    refine r_get hx hb hts i_X7 hown hT hP inW (fs := (fsW g)) (obW g) rfl 7 (by decide) q199 (fun _ h9 => h9) rfl dX7_drawBelow_25 ?_
    refine lv_iload_n hx hb dX7_drawBelow_28 rfl (lv_at hl 1 rfl) ?_
    obtain ⟨hz_3, hf⟩ := grd_some hf
    refine lv_irem hx hb dX7_drawBelow_29 hz_3 ?_
    refine lv_goto (tgt := 34) hx hb dX7_drawBelow_30 (by decide) ?_
    exact W.iret (v := (μ_1 0 7) - (μ_1 0 7) / bo * bo) hx hb hr (fun t9 ht hW => ⟨⟨(μ_1 0 7) - (μ_1 0 7) / bo * bo, (), rfl, by show (μ_1 0 7) - (μ_1 0 7) / bo * bo = r.2; rw [← Option.some.inj hf], by show Rg g r.1 t9.heap; rw [ht, ← Option.some.inj hf]; exact hP⟩, hS.F ht⟩) hS.2.2 dX7_drawBelow_34
end
section
/-- "Sandglass$World" "begin" "(LSandglass$Script;II)V" -/
def f_X7_beginC (g : Geo) (μ : Mem) (sc : Nat) (rk : Int32) (de : Int32) : Option (Mem) := if (μ 0 5) < 0 then (some μ) else (if (μ 0 5) < 24 then (grd (¬ ((μ 0 5) < 0 ∨ 24 ≤ (μ 0 5).toNatClampNeg)) (bnd ((μ 0 5).toNatClampNeg + 1) fun k_5 => bnd (put μ 0 5 ((μ 0 5) + 1)) fun μ_6 => bnd (put μ_6 k_5 1 (nI (sc - 114))) fun μ_7 => bnd (put μ_7 k_5 2 rk) fun μ_8 => bnd (put μ_8 k_5 4 (μ_8 0 6)) fun μ_9 => bnO (f_X7_schedule g μ_9 k_5 0 de) fun μ_12 => some μ_12)) else (some μ))
theorem hd_X7_beginC : yX7_begin.cls = RX7 ∧ yX7_begin.cls ≠ "java/lang/invoke/MethodHandle" ∧ yX7_begin.cls ≠ "java/lang/invoke/VarHandle" ∧ (parseMethodDescriptor yX7_begin.desc).map (fun d => d.parameters.length) = some 3 := by decide +kernel
set_option maxHeartbeats 4000000 in
set_option maxRecDepth 100000 in
theorem c_X7_beginC (l : Launch) {g : Geo} (hg : Good g) (μ : Mem) (sz : Nat) (sc : Nat) (rk : Int32) (de : Int32) (hsc : isC g sc) {r : Mem} (hf : f_X7_beginC g μ sc rk de = some r) : Met l yX7_begin (ws_ yX7_begin cX7_begin 5 (Option.none : Option Jvm.ClassFile.FieldType)) (rm_ 1 23 0 0) (Pz g [.ref (g.ad 0), .ref (g.ad sc), .int rk, .int de] (fun H9 => H9.size = sz ∧ Rg g μ H9)) (va_Qv (fun _ : Unit => True) (fun _ t => Rg g r t.heap) (Ag g sz)) 0 0 (Ag g sz) := by
  refine Met.ofW (cc := cX7_begin) (maxL := 5) (ret := (Option.none : Option Jvm.ClassFile.FieldType)) (by decide) rfl ?_
  intro p e s m args below meth c s₁ B hml hv
  obtain ⟨rfl, hT, hsz, hP⟩ := hv
  have hx := B.exec
  have hb := B.bytes
  have hr := B.returns
  have hts : ∀ w ∈ lw_all, w.before _ s = true := fun w h => atoms_spec (ws := (ws_ yX7_begin cX7_begin 5 (Option.none : Option Jvm.ClassFile.FieldType))) B.pre w (List.mem_cons_of_mem _ h)
  have hown : s.vm.findClass RX7 = some m.cls := findClass_of_methodNamed B.named
  have hlocks := B.notSynchronized
  subst hsz
  have hD := fun ν => Ag.apart hg s.heap.size ν
  have hS : va_S (Ag g s.heap.size) s.heap s.heap [] := va_S.rf
  have hl := lv_entry ([.ref (g.ad 0), .ref (g.ad sc), .int rk, .int de]) (n := 5) (Nat.le_of_ble_eq_true rfl)
  rw [lg_entry_eq]
  generalize (lg_sl ([.ref (g.ad 0), .ref (g.ad sc), .int rk, .int de]) ++ List.replicate (5 - (lg_sl ([.ref (g.ad 0), .ref (g.ad sc), .int rk, .int de])).length) Slot.unset).toArray = ls at hl ⊢
  have hl : lv_has ls 5 [(0, .ref (g.ad 0)), (1, .ref (g.ad sc)), (2, .int rk), (3, .int de)] := hl
  unfold f_X7_beginC at hf
  refine lv_aload_n hx hb dX7_begin_0 rfl (lv_at hl 0 rfl) ?_
  refine r_get hx hb hts i_X7 hown hT hP inW (fs := (fsW g)) (obW g) rfl 5 (by decide) q195 (fun _ h9 => h9) rfl dX7_begin_1 ?_
  refine lv_if_lt (tgt := 19) hx hb dX7_begin_4 (by decide) (fun c_1 => ?_) (fun c_1 => ?_)
  · have hf := (if_pos c_1).symm.trans hf
    exact W.vret hx hb hr (fun t9 ht hW => ⟨⟨(), rfl, trivial, by show Rg g r t9.heap; rw [ht, ← Option.some.inj hf]; exact hP⟩, hS.F ht⟩) hS.2.2 dX7_begin_19
  · have hf := (if_neg c_1).symm.trans hf
    refine lv_aload_n hx hb dX7_begin_7 rfl (lv_at hl 0 rfl) ?_
    refine r_get hx hb hts i_X7 hown hT hP inW (fs := (fsW g)) (obW g) rfl 5 (by decide) q195 (fun _ h9 => h9) rfl dX7_begin_8 ?_
    refine lv_aload_n hx hb dX7_begin_11 rfl (lv_at hl 0 rfl) ?_
    refine r_get hx hb hts i_X7 hown hT hP inW (fs := (fsW g)) (obW g) rfl 4 (by decide) q194 (fun _ h9 => h9) rfl dX7_begin_12 ?_
    refine r_alenP hx hb hT hP dX7_begin_15 ?_
    refine lv_icmp_lt (tgt := 20) hx hb dX7_begin_16 (by decide) (fun c_2 => ?_) (fun c_2 => ?_)
    · have hf := (if_pos c_2).symm.trans hf
      refine lv_aload_n hx hb dX7_begin_20 rfl (lv_at hl 0 rfl) ?_
      refine r_get hx hb hts i_X7 hown hT hP inW (fs := (fsW g)) (obW g) rfl 4 (by decide) q194 (fun _ h9 => h9) rfl dX7_begin_21 ?_
      refine lv_aload_n hx hb dX7_begin_24 rfl (lv_at hl 0 rfl) ?_
      refine r_get hx hb hts i_X7 hown hT hP inW (fs := (fsW g)) (obW g) rfl 5 (by decide) q195 (fun _ h9 => h9) rfl dX7_begin_25 ?_
      obtain ⟨hi_3, hf⟩ := grd_some hf
      refine r_aaldP hx hb hT hP hi_3 dX7_begin_28 (fun hp_4 => ?_)
      obtain ⟨k_5, ek_5⟩ : ∃ z, (μ 0 5).toNatClampNeg + 1 = z := ⟨_, rfl⟩
      rw [ek_5] at hp_4 ⊢
      have hf := bnd_eq hf _ ek_5
      refine lv_astore (lv' := [(4, .ref (g.ad k_5)), (0, .ref (g.ad 0)), (1, .ref (g.ad sc)), (2, .int rk), (3, .int de)]) hx hb dX7_begin_29 hl (by decide) rfl (fun ls hl => ?_)
      refine lv_aload_n hx hb dX7_begin_31 rfl (lv_at hl 1 rfl) ?_
      refine lv_dup hx hb dX7_begin_32 rfl ?_
      refine r_get hx hb hts i_X7 hown hT hP inW (fs := (fsW g)) (obW g) rfl 5 (by decide) q195 (fun _ h9 => h9) rfl dX7_begin_33 ?_
      refine lv_iconst (v := 1) hx hb dX7_begin_36 (by decide) ?_
      refine lv_iadd hx hb dX7_begin_37 ?_
      refine r_put hx hb hts i_X7 tyX7 tyX7_ok nmX7 hown hT hP hD hS inW (fs := (fsW g)) (obW g) rfl 5 (by decide) q195 (fun _ h9 => h9) rfl (ty := .int) (x := (μ 0 5) + 1) rfl rfl rfl (fun _ => rfl) (Nat.le_of_ble_eq_true rfl) dX7_begin_38 (fun H locs hP hS => ?_)
      obtain ⟨μ_6, eμ_6⟩ : ∃ z, put μ 0 5 ((μ 0 5) + 1) = z := ⟨_, rfl⟩
      rw [eμ_6] at hP
      have hf := bnd_eq hf _ eμ_6
      refine lv_aload hx hb dX7_begin_41 (lv_at hl 0 rfl) ?_
      refine lv_aload_n hx hb dX7_begin_43 rfl (lv_at hl 2 rfl) ?_
      refine r_put hx hb hts i_X2 tyX2 tyX2_ok nmX2 hown hT hP hD hS (inP hp_4) (fs := (fsP g k_5)) (obP hp_4) rfl 1 (by decide) q114 (fun _ h9 => h9) rfl (ty := (.object "Sandglass$Script")) (x := nI (sc - 114)) rfl rfl rfl (fun _ => set_script hsc) (Nat.le_of_ble_eq_true rfl) dX7_begin_44 (fun H locs hP hS => ?_)
      obtain ⟨μ_7, eμ_7⟩ : ∃ z, put μ_6 k_5 1 (nI (sc - 114)) = z := ⟨_, rfl⟩
      rw [eμ_7] at hP
      have hf := bnd_eq hf _ eμ_7
      refine lv_aload hx hb dX7_begin_47 (lv_at hl 0 rfl) ?_
      refine lv_iload_n hx hb dX7_begin_49 rfl (lv_at hl 3 rfl) ?_
      refine r_put hx hb hts i_X2 tyX2 tyX2_ok nmX2 hown hT hP hD hS (inP hp_4) (fs := (fsP g k_5)) (obP hp_4) rfl 2 (by decide) q116 (fun _ h9 => h9) rfl (ty := .int) (x := rk) rfl rfl rfl (fun _ => rfl) (Nat.le_of_ble_eq_true rfl) dX7_begin_50 (fun H locs hP hS => ?_)
      obtain ⟨μ_8, eμ_8⟩ : ∃ z, put μ_7 k_5 2 rk = z := ⟨_, rfl⟩
      rw [eμ_8] at hP
      have hf := bnd_eq hf _ eμ_8
      refine lv_aload hx hb dX7_begin_53 (lv_at hl 0 rfl) ?_
      refine lv_aload_n hx hb dX7_begin_55 rfl (lv_at hl 1 rfl) ?_
      refine r_get hx hb hts i_X7 hown hT hP inW (fs := (fsW g)) (obW g) rfl 6 (by decide) q197 (fun _ h9 => h9) rfl dX7_begin_56 ?_
      refine r_put hx hb hts i_X2 tyX2 tyX2_ok nmX2 hown hT hP hD hS (inP hp_4) (fs := (fsP g k_5)) (obP hp_4) rfl 4 (by decide) q122 (fun _ h9 => h9) rfl (ty := .int) (x := μ_8 0 6) rfl rfl rfl (fun _ => rfl) (Nat.le_of_ble_eq_true rfl) dX7_begin_59 (fun H locs hP hS => ?_)
      obtain ⟨μ_9, eμ_9⟩ : ∃ z, put μ_8 k_5 4 (μ_8 0 6) = z := ⟨_, rfl⟩
      rw [eμ_9] at hP
      have hf := bnd_eq hf _ eμ_9
      refine lv_aload_n hx hb dX7_begin_62 rfl (lv_at hl 1 rfl) ?_
      refine lv_aload hx hb dX7_begin_63 (lv_at hl 0 rfl) ?_
      refine lv_iconst (v := 0) hx hb dX7_begin_65 (by decide) ?_
      refine lv_iload_n hx hb dX7_begin_66 rfl (lv_at hl 4 rfl) ?_
      obtain ⟨μ_12, hc_11, hf⟩ := bnO_some hf
      refine va_callv (va_runV (As := [.ref (g.ad k_5), .int 0, .int de]) (rest := []) ⟨hx, hb, hml, hown, hts⟩ (c_X7_schedule l hg μ_9 H.size k_5 0 de hp_4 hc_11) (cwV 3 hts (gd_V q381 q382 q383 q41 q384) rfl rfl rfl hd_X7_schedule ⟨Nat.le_of_ble_eq_true rfl, Nat.le_of_ble_eq_true rfl⟩) ⟨Pz.blind, r_recv hT hP inW (fs := (fsW g)) (obW g) rfl, fun U hU hW => ⟨rfl, Tb.warm hW hT, by rw [hU], by rw [hU]; exact hP⟩⟩ rfl rfl hl.1 rfl (lv_room (Nat.le_of_ble_eq_true rfl)) dX7_begin_67 ⟨Nat.le_of_ble_eq_true rfl, Nat.le_of_ble_eq_true rfl⟩) hS (fun q _ h => Ag.sub rfl hS q h) (fun q h => Ag.sub rfl hS q h) (fun u9 t9 H locs ht9 hvm9 hw9 hB9 hz9 hk9 hS => ?_)
      have hP : Rg g μ_12 H := by rw [← ht9]; exact hB9
      exact W.vret hx hb hr (fun t9 ht hW => ⟨⟨(), rfl, trivial, by show Rg g r t9.heap; rw [ht, ← Option.some.inj hf]; exact hP⟩, hS.F ht⟩) hS.2.2 dX7_begin_70
    · have hf := (if_neg c_2).symm.trans hf
      exact W.vret hx hb hr (fun t9 ht hW => ⟨⟨(), rfl, trivial, by show Rg g r t9.heap; rw [ht, ← Option.some.inj hf]; exact hP⟩, hS.F ht⟩) hS.2.2 dX7_begin_19
/-- "Sandglass$World" "begin" "(LSandglass$Script;II)V" -/
def f_X7_beginN (g : Geo) (μ : Mem) (rk : Int32) (de : Int32) : Option (Mem) := if (μ 0 5) < 0 then (some μ) else (if (μ 0 5) < 24 then (grd (¬ ((μ 0 5) < 0 ∨ 24 ≤ (μ 0 5).toNatClampNeg)) (bnd ((μ 0 5).toNatClampNeg + 1) fun k_5 => bnd (put μ 0 5 ((μ 0 5) + 1)) fun μ_6 => bnd (put μ_6 k_5 1 (-1)) fun μ_7 => bnd (put μ_7 k_5 2 rk) fun μ_8 => bnd (put μ_8 k_5 4 (μ_8 0 6)) fun μ_9 => bnO (f_X7_schedule g μ_9 k_5 0 de) fun μ_12 => some μ_12)) else (some μ))
theorem hd_X7_beginN : yX7_begin.cls = RX7 ∧ yX7_begin.cls ≠ "java/lang/invoke/MethodHandle" ∧ yX7_begin.cls ≠ "java/lang/invoke/VarHandle" ∧ (parseMethodDescriptor yX7_begin.desc).map (fun d => d.parameters.length) = some 3 := by decide +kernel
set_option maxHeartbeats 4000000 in
set_option maxRecDepth 100000 in
theorem c_X7_beginN (l : Launch) {g : Geo} (hg : Good g) (μ : Mem) (sz : Nat) (rk : Int32) (de : Int32) {r : Mem} (hf : f_X7_beginN g μ rk de = some r) : Met l yX7_begin (ws_ yX7_begin cX7_begin 5 (Option.none : Option Jvm.ClassFile.FieldType)) (rm_ 1 23 0 0) (Pz g [.ref (g.ad 0), .null, .int rk, .int de] (fun H9 => H9.size = sz ∧ Rg g μ H9)) (va_Qv (fun _ : Unit => True) (fun _ t => Rg g r t.heap) (Ag g sz)) 0 0 (Ag g sz) := by
  refine Met.ofW (cc := cX7_begin) (maxL := 5) (ret := (Option.none : Option Jvm.ClassFile.FieldType)) (by decide) rfl ?_
  intro p e s m args below meth c s₁ B hml hv
  obtain ⟨rfl, hT, hsz, hP⟩ := hv
  have hx := B.exec
  have hb := B.bytes
  have hr := B.returns
  have hts : ∀ w ∈ lw_all, w.before _ s = true := fun w h => atoms_spec (ws := (ws_ yX7_begin cX7_begin 5 (Option.none : Option Jvm.ClassFile.FieldType))) B.pre w (List.mem_cons_of_mem _ h)
  have hown : s.vm.findClass RX7 = some m.cls := findClass_of_methodNamed B.named
  have hlocks := B.notSynchronized
  subst hsz
  have hD := fun ν => Ag.apart hg s.heap.size ν
  have hS : va_S (Ag g s.heap.size) s.heap s.heap [] := va_S.rf
  have hl := lv_entry ([.ref (g.ad 0), .null, .int rk, .int de]) (n := 5) (Nat.le_of_ble_eq_true rfl)
  rw [lg_entry_eq]
  generalize (lg_sl ([.ref (g.ad 0), .null, .int rk, .int de]) ++ List.replicate (5 - (lg_sl ([.ref (g.ad 0), .null, .int rk, .int de])).length) Slot.unset).toArray = ls at hl ⊢
  have hl : lv_has ls 5 [(0, .ref (g.ad 0)), (1, .null), (2, .int rk), (3, .int de)] := hl
  unfold f_X7_beginN at hf
  refine lv_aload_n hx hb dX7_begin_0 rfl (lv_at hl 0 rfl) ?_
  refine r_get hx hb hts i_X7 hown hT hP inW (fs := (fsW g)) (obW g) rfl 5 (by decide) q195 (fun _ h9 => h9) rfl dX7_begin_1 ?_
  refine lv_if_lt (tgt := 19) hx hb dX7_begin_4 (by decide) (fun c_1 => ?_) (fun c_1 => ?_)
  · have hf := (if_pos c_1).symm.trans hf
    exact W.vret hx hb hr (fun t9 ht hW => ⟨⟨(), rfl, trivial, by show Rg g r t9.heap; rw [ht, ← Option.some.inj hf]; exact hP⟩, hS.F ht⟩) hS.2.2 dX7_begin_19
  · have hf := (if_neg c_1).symm.trans hf
    refine lv_aload_n hx hb dX7_begin_7 rfl (lv_at hl 0 rfl) ?_
    refine r_get hx hb hts i_X7 hown hT hP inW (fs := (fsW g)) (obW g) rfl 5 (by decide) q195 (fun _ h9 => h9) rfl dX7_begin_8 ?_
    refine lv_aload_n hx hb dX7_begin_11 rfl (lv_at hl 0 rfl) ?_
    refine r_get hx hb hts i_X7 hown hT hP inW (fs := (fsW g)) (obW g) rfl 4 (by decide) q194 (fun _ h9 => h9) rfl dX7_begin_12 ?_
    refine r_alenP hx hb hT hP dX7_begin_15 ?_
    refine lv_icmp_lt (tgt := 20) hx hb dX7_begin_16 (by decide) (fun c_2 => ?_) (fun c_2 => ?_)
    · have hf := (if_pos c_2).symm.trans hf
      refine lv_aload_n hx hb dX7_begin_20 rfl (lv_at hl 0 rfl) ?_
      refine r_get hx hb hts i_X7 hown hT hP inW (fs := (fsW g)) (obW g) rfl 4 (by decide) q194 (fun _ h9 => h9) rfl dX7_begin_21 ?_
      refine lv_aload_n hx hb dX7_begin_24 rfl (lv_at hl 0 rfl) ?_
      refine r_get hx hb hts i_X7 hown hT hP inW (fs := (fsW g)) (obW g) rfl 5 (by decide) q195 (fun _ h9 => h9) rfl dX7_begin_25 ?_
      obtain ⟨hi_3, hf⟩ := grd_some hf
      refine r_aaldP hx hb hT hP hi_3 dX7_begin_28 (fun hp_4 => ?_)
      obtain ⟨k_5, ek_5⟩ : ∃ z, (μ 0 5).toNatClampNeg + 1 = z := ⟨_, rfl⟩
      rw [ek_5] at hp_4 ⊢
      have hf := bnd_eq hf _ ek_5
      refine lv_astore (lv' := [(4, .ref (g.ad k_5)), (0, .ref (g.ad 0)), (1, .null), (2, .int rk), (3, .int de)]) hx hb dX7_begin_29 hl (by decide) rfl (fun ls hl => ?_)
      refine lv_aload_n hx hb dX7_begin_31 rfl (lv_at hl 1 rfl) ?_
      refine lv_dup hx hb dX7_begin_32 rfl ?_
      refine r_get hx hb hts i_X7 hown hT hP inW (fs := (fsW g)) (obW g) rfl 5 (by decide) q195 (fun _ h9 => h9) rfl dX7_begin_33 ?_
      refine lv_iconst (v := 1) hx hb dX7_begin_36 (by decide) ?_
      refine lv_iadd hx hb dX7_begin_37 ?_
      refine r_put hx hb hts i_X7 tyX7 tyX7_ok nmX7 hown hT hP hD hS inW (fs := (fsW g)) (obW g) rfl 5 (by decide) q195 (fun _ h9 => h9) rfl (ty := .int) (x := (μ 0 5) + 1) rfl rfl rfl (fun _ => rfl) (Nat.le_of_ble_eq_true rfl) dX7_begin_38 (fun H locs hP hS => ?_)
      obtain ⟨μ_6, eμ_6⟩ : ∃ z, put μ 0 5 ((μ 0 5) + 1) = z := ⟨_, rfl⟩
      rw [eμ_6] at hP
      have hf := bnd_eq hf _ eμ_6
      refine lv_aload hx hb dX7_begin_41 (lv_at hl 0 rfl) ?_
      refine lv_aload_nN hx hb dX7_begin_43 rfl (lv_at hl 2 rfl) ?_
      refine r_put hx hb hts i_X2 tyX2 tyX2_ok nmX2 hown hT hP hD hS (inP hp_4) (fs := (fsP g k_5)) (obP hp_4) rfl 1 (by decide) q114 (fun _ h9 => h9) rfl (ty := (.object "Sandglass$Script")) (x := (-1)) rfl rfl rfl (fun _ => set_scriptN) (Nat.le_of_ble_eq_true rfl) dX7_begin_44 (fun H locs hP hS => ?_)
      obtain ⟨μ_7, eμ_7⟩ : ∃ z, put μ_6 k_5 1 (-1) = z := ⟨_, rfl⟩
      rw [eμ_7] at hP
      have hf := bnd_eq hf _ eμ_7
      refine lv_aload hx hb dX7_begin_47 (lv_at hl 0 rfl) ?_
      refine lv_iload_n hx hb dX7_begin_49 rfl (lv_at hl 3 rfl) ?_
      refine r_put hx hb hts i_X2 tyX2 tyX2_ok nmX2 hown hT hP hD hS (inP hp_4) (fs := (fsP g k_5)) (obP hp_4) rfl 2 (by decide) q116 (fun _ h9 => h9) rfl (ty := .int) (x := rk) rfl rfl rfl (fun _ => rfl) (Nat.le_of_ble_eq_true rfl) dX7_begin_50 (fun H locs hP hS => ?_)
      obtain ⟨μ_8, eμ_8⟩ : ∃ z, put μ_7 k_5 2 rk = z := ⟨_, rfl⟩
      rw [eμ_8] at hP
      have hf := bnd_eq hf _ eμ_8
      refine lv_aload hx hb dX7_begin_53 (lv_at hl 0 rfl) ?_
      refine lv_aload_n hx hb dX7_begin_55 rfl (lv_at hl 1 rfl) ?_
      refine r_get hx hb hts i_X7 hown hT hP inW (fs := (fsW g)) (obW g) rfl 6 (by decide) q197 (fun _ h9 => h9) rfl dX7_begin_56 ?_
      refine r_put hx hb hts i_X2 tyX2 tyX2_ok nmX2 hown hT hP hD hS (inP hp_4) (fs := (fsP g k_5)) (obP hp_4) rfl 4 (by decide) q122 (fun _ h9 => h9) rfl (ty := .int) (x := μ_8 0 6) rfl rfl rfl (fun _ => rfl) (Nat.le_of_ble_eq_true rfl) dX7_begin_59 (fun H locs hP hS => ?_)
      obtain ⟨μ_9, eμ_9⟩ : ∃ z, put μ_8 k_5 4 (μ_8 0 6) = z := ⟨_, rfl⟩
      rw [eμ_9] at hP
      have hf := bnd_eq hf _ eμ_9
      refine lv_aload_n hx hb dX7_begin_62 rfl (lv_at hl 1 rfl) ?_
      refine lv_aload hx hb dX7_begin_63 (lv_at hl 0 rfl) ?_
      refine lv_iconst (v := 0) hx hb dX7_begin_65 (by decide) ?_
      refine lv_iload_n hx hb dX7_begin_66 rfl (lv_at hl 4 rfl) ?_
      obtain ⟨μ_12, hc_11, hf⟩ := bnO_some hf
      refine va_callv (va_runV (As := [.ref (g.ad k_5), .int 0, .int de]) (rest := []) ⟨hx, hb, hml, hown, hts⟩ (c_X7_schedule l hg μ_9 H.size k_5 0 de hp_4 hc_11) (cwV 3 hts (gd_V q381 q382 q383 q41 q384) rfl rfl rfl hd_X7_schedule ⟨Nat.le_of_ble_eq_true rfl, Nat.le_of_ble_eq_true rfl⟩) ⟨Pz.blind, r_recv hT hP inW (fs := (fsW g)) (obW g) rfl, fun U hU hW => ⟨rfl, Tb.warm hW hT, by rw [hU], by rw [hU]; exact hP⟩⟩ rfl rfl hl.1 rfl (lv_room (Nat.le_of_ble_eq_true rfl)) dX7_begin_67 ⟨Nat.le_of_ble_eq_true rfl, Nat.le_of_ble_eq_true rfl⟩) hS (fun q _ h => Ag.sub rfl hS q h) (fun q h => Ag.sub rfl hS q h) (fun u9 t9 H locs ht9 hvm9 hw9 hB9 hz9 hk9 hS => ?_)
      have hP : Rg g μ_12 H := by rw [← ht9]; exact hB9
      exact W.vret hx hb hr (fun t9 ht hW => ⟨⟨(), rfl, trivial, by show Rg g r t9.heap; rw [ht, ← Option.some.inj hf]; exact hP⟩, hS.F ht⟩) hS.2.2 dX7_begin_70
    · have hf := (if_neg c_2).symm.trans hf
      exact W.vret hx hb hr (fun t9 ht hW => ⟨⟨(), rfl, trivial, by show Rg g r t9.heap; rw [ht, ← Option.some.inj hf]; exact hP⟩, hS.F ht⟩) hS.2.2 dX7_begin_19
/-- "Sandglass$World" "goTo" "(I)V" -/
def b_X7_goTo_85 (g : Geo) : Nat → Mem → Int32 → Int32 → Int32 → Option (Mem)
  | 0, _, _, _, _ => none
  | n + 1, μ, x1, x2, x3 => if (nI (g.sz 1)) ≤ x3 then (bnd (put μ 0 6 x1) fun μ_10 => some μ_10) else (grd (¬ (x3 < 0 ∨ g.sz 1 ≤ x3.toNatClampNeg)) (bnd (108 + x3.toNatClampNeg) fun k_13 => grd (108 ≤ k_13 ∧ k_13 < 108 + g.sz 1 ∧ k_13 < 112) (bnd (put μ k_13 3 ((μ k_13 3) + ((μ k_13 2) * x2))) fun μ_14 => b_X7_goTo_85 g n μ_14 x1 x2 (x3 + 1))))
def b_X7_goTo_9 (g : Geo) : Nat → Mem → Int32 → Int32 → Int32 → Option (Mem)
  | 0, _, _, _, _ => none
  | n + 1, μ, x1, x2, x3 => if (nI (g.sz 0)) ≤ x3 then (b_X7_goTo_85 g fu μ x1 x2 0) else (grd (¬ (x3 < 0 ∨ g.sz 0 ≤ x3.toNatClampNeg)) (bnd (102 + x3.toNatClampNeg) fun k_4 => grd (102 ≤ k_4 ∧ k_4 < 102 + g.sz 0 ∧ k_4 < 108) (bnd (put μ k_4 4 ((μ k_4 4) + (((μ k_4 2) - (μ k_4 3)) * x2))) fun μ_5 => bnO (f_X7_countIn g μ_5 (μ_5 k_4 0)) fun r_6 => bnd (put μ_5 k_4 5 ((μ_5 k_4 5) + (r_6 * x2))) fun μ_8 => b_X7_goTo_9 g n μ_8 x1 x2 (x3 + 1))))
def f_X7_goTo (g : Geo) (μ : Mem) (th : Int32) : Option (Mem) := b_X7_goTo_9 g fu μ th (th - (μ 0 6)) 0
theorem hd_X7_goTo : yX7_goTo.cls = RX7 ∧ yX7_goTo.cls ≠ "java/lang/invoke/MethodHandle" ∧ yX7_goTo.cls ≠ "java/lang/invoke/VarHandle" ∧ (parseMethodDescriptor yX7_goTo.desc).map (fun d => d.parameters.length) = some 1 := by decide +kernel
set_option maxHeartbeats 4000000 in
set_option maxRecDepth 100000 in
theorem c_X7_goTo (l : Launch) {g : Geo} (hg : Good g) (μ : Mem) (sz : Nat) (th : Int32) {r : Mem} (hf : f_X7_goTo g μ th = some r) : Met l yX7_goTo (ws_ yX7_goTo cX7_goTo 5 (Option.none : Option Jvm.ClassFile.FieldType)) (rm_ 3 64 0 0) (Pz g [.ref (g.ad 0), .int th] (fun H9 => H9.size = sz ∧ Rg g μ H9)) (va_Qv (fun _ : Unit => True) (fun _ t => Rg g r t.heap) (Ag g sz)) 0 0 (Ag g sz) := by
  refine Met.ofW (cc := cX7_goTo) (maxL := 5) (ret := (Option.none : Option Jvm.ClassFile.FieldType)) (by decide) rfl ?_
  intro p e s m args below meth c s₁ B hml hv
  obtain ⟨rfl, hT, hsz, hP⟩ := hv
  have hx := B.exec
  have hb := B.bytes
  have hr := B.returns
  have hts : ∀ w ∈ lw_all, w.before _ s = true := fun w h => atoms_spec (ws := (ws_ yX7_goTo cX7_goTo 5 (Option.none : Option Jvm.ClassFile.FieldType))) B.pre w (List.mem_cons_of_mem _ h)
  have hown : s.vm.findClass RX7 = some m.cls := findClass_of_methodNamed B.named
  have hlocks := B.notSynchronized
  subst hsz
  have hD := fun ν => Ag.apart hg s.heap.size ν
  have hS : va_S (Ag g s.heap.size) s.heap s.heap [] := va_S.rf
  have L85 : ∀ (n : Nat) (μ : Mem) (x1 : Int32) (x2 : Int32) (x3 : Int32) (H : Heap) (locs : List Loc) (ls : Array Slot), Rg g μ H → va_S (Ag g s.heap.size) s.heap H locs → lv_has ls 5 [(0, .ref (g.ad 0)), (1, .int x1), (2, .int x2), (3, .int x3)] → b_X7_goTo_85 g n μ x1 x2 x3 = some r → W p l e (headSpec (ws_ yX7_goTo cX7_goTo 5 (Option.none : Option Jvm.ClassFile.FieldType)) (rm_ 3 64 0 0)).room s m ([.ref (g.ad 0), .int th] : List Value).toArray below meth c H locs 0 0 (MQ below (va_Qv (fun _ : Unit => True) (fun _ t => Rg g r t.heap) (Ag g s.heap.size)) ([.ref (g.ad 0), .int th] : List Value).toArray s 0 0 (Ag g s.heap.size)) (F0 m 85 ls []) := by
    intro n
    induction n with
    | zero => intro μ x1 x2 x3 H locs ls hP hS hl  hf; cases hf
    | succ n ih =>
      intro μ x1 x2 x3 H locs ls hP hS hl  hf
      rw [b_X7_goTo_85] at hf
      refine lv_iload_n hx hb dX7_goTo_85 rfl (lv_at hl 3 rfl) ?_
      refine lv_aload_n hx hb dX7_goTo_86 rfl (lv_at hl 0 rfl) ?_
      refine r_get hx hb hts i_X7 hown hT hP inW (fs := (fsW g)) (obW g) rfl 3 (by decide) q192 (fun _ h9 => h9) rfl dX7_goTo_87 ?_
      refine va_calli (va_runV (As := []) (rest := [.int x3]) ⟨hx, hb, hml, hown, hts⟩ (c_Jx4a65c_size_8abf5 l hg μ in100 (szS g)) (cwV 0 hts (gd_V q325 q326 q327 q40 q328) rfl rfl rfl hd_Jx4a65c_size_8abf5 ⟨Nat.le_of_ble_eq_true rfl, Nat.le_of_ble_eq_true rfl⟩) ⟨Pz.blind, r_recv hT hP in100 (fs := fun _ => [.int 0, .ref (g.ad (101)), .int (nI (g.sz 1))]) (szS g) rfl, fun U hU hW => ⟨rfl, Tb.warm hW hT, by rw [hU]; exact hP⟩⟩ rfl rfl hl.1 rfl (lv_room (Nat.le_of_ble_eq_true rfl)) dX7_goTo_90 ⟨Nat.le_of_ble_eq_true rfl, Nat.le_of_ble_eq_true rfl⟩) hS (fun q _ h => h.elim) (fun q h => h.elim) (fun v9 u9 t9 H locs ht9 hvm9 hw9 hB9 hz9 hk9 hS => ?_)
      have hP := Rg.keep hP (fun q h => hk9 q h id)
      rw [hw9]
      refine lv_icmp_ge (tgt := 132) hx hb dX7_goTo_93 (by decide) (fun c_9 => ?_) (fun c_9 => ?_)
      · have hf := (if_pos c_9).symm.trans hf
        refine lv_aload_n hx hb dX7_goTo_132 rfl (lv_at hl 0 rfl) ?_
        refine lv_iload_n hx hb dX7_goTo_133 rfl (lv_at hl 1 rfl) ?_
        refine r_put hx hb hts i_X7 tyX7 tyX7_ok nmX7 hown hT hP hD hS inW (fs := (fsW g)) (obW g) rfl 6 (by decide) q197 (fun _ h9 => h9) rfl (ty := .int) (x := x1) rfl rfl rfl (fun _ => rfl) (Nat.le_of_ble_eq_true rfl) dX7_goTo_134 (fun H locs hP hS => ?_)
        obtain ⟨μ_10, eμ_10⟩ : ∃ z, put μ 0 6 x1 = z := ⟨_, rfl⟩
        rw [eμ_10] at hP
        have hf := bnd_eq hf _ eμ_10
        exact W.vret hx hb hr (fun t9 ht hW => ⟨⟨(), rfl, trivial, by show Rg g r t9.heap; rw [ht, ← Option.some.inj hf]; exact hP⟩, hS.F ht⟩) hS.2.2 dX7_goTo_137
      · have hf := (if_neg c_9).symm.trans hf
        refine lv_aload_n hx hb dX7_goTo_96 rfl (lv_at hl 0 rfl) ?_
        refine r_get hx hb hts i_X7 hown hT hP inW (fs := (fsW g)) (obW g) rfl 3 (by decide) q192 (fun _ h9 => h9) rfl dX7_goTo_97 ?_
        refine lv_iload_n hx hb dX7_goTo_100 rfl (lv_at hl 3 rfl) ?_
        obtain ⟨hi_11, hf⟩ := grd_some hf
        have hj_12 : x3.toNatClampNeg < g.sz 1 := Nat.not_le.mp (fun z => hi_11 (Or.inr z))
        refine va_callq (va_runV (As := [.int x3]) (rest := []) ⟨hx, hb, hml, hown, hts⟩ (c_Jx4a65c_get_915e3 l hg μ (lsS hg) (nI_self (fun z => hi_11 (Or.inl z))) hj_12) (cwV 1 hts (gd_V q329 q330 q331 q40 q332) rfl rfl rfl hd_Jx4a65c_get_915e3 ⟨Nat.le_of_ble_eq_true rfl, Nat.le_of_ble_eq_true rfl⟩) ⟨Pz.blind, r_recv hT hP in100 (fs := fun _ => [.int 0, .ref (g.ad (101)), .int (nI (g.sz 1))]) (szS g) rfl, fun U hU hW => ⟨rfl, Tb.warm hW hT, by rw [hU]; exact hP⟩⟩ rfl rfl hl.1 rfl (lv_room (Nat.le_of_ble_eq_true rfl)) dX7_goTo_101 ⟨Nat.le_of_ble_eq_true rfl, Nat.le_of_ble_eq_true rfl⟩) hS (fun q _ h => h.elim) (fun q h => h.elim) (fun v9 u9 t9 H locs ht9 hvm9 hw9 hB9 hz9 hk9 hS => ?_)
        have hP := Rg.keep hP (fun q h => hk9 q h id)
        rw [hw9, fnL_in hj_12]
        refine W.eq (g2 := F0 m 104 ls (.ref (g.ad (108 + x3.toNatClampNeg)) :: [])) rfl ?_
        obtain ⟨k_13, ek_13⟩ : ∃ z, 108 + x3.toNatClampNeg = z := ⟨_, rfl⟩
        rw [ek_13]
        have hf := bnd_eq hf _ ek_13
        obtain ⟨hk_13, hf⟩ := grd_some hf
        refine r_cast hx hb hts hown hT hP (inS hk_13) (fs := fsS) (obS hk_13) rfl q410 dX7_goTo_104 ?_
        refine lv_astore (lv' := [(4, .ref (g.ad k_13)), (0, .ref (g.ad 0)), (1, .int x1), (2, .int x2), (3, .int x3)]) hx hb dX7_goTo_107 hl (by decide) rfl (fun ls hl => ?_)
        refine lv_aload hx hb dX7_goTo_109 (lv_at hl 0 rfl) ?_
        refine lv_dup hx hb dX7_goTo_111 rfl ?_
        refine r_get hx hb hts i_X5 hown hT hP (inS hk_13) (fs := fsS) (obS hk_13) rfl 3 (by decide) q1001 (fun _ h9 => h9) rfl dX7_goTo_112 ?_
        refine lv_aload hx hb dX7_goTo_115 (lv_at hl 0 rfl) ?_
        refine r_get hx hb hts i_X5 hown hT hP (inS hk_13) (fs := fsS) (obS hk_13) rfl 2 (by decide) q998 (fun _ h9 => h9) rfl dX7_goTo_117 ?_
        refine lv_iload_n hx hb dX7_goTo_120 rfl (lv_at hl 3 rfl) ?_
        refine lv_imul hx hb dX7_goTo_121 ?_
        refine lv_iadd hx hb dX7_goTo_122 ?_
        refine r_put hx hb hts i_X5 tyX5 tyX5_ok nmX5 hown hT hP hD hS (inS hk_13) (fs := fsS) (obS hk_13) rfl 3 (by decide) q1001 (fun _ h9 => h9) rfl (ty := .int) (x := (μ k_13 3) + ((μ k_13 2) * x2)) rfl rfl rfl (fun _ => rfl) (Nat.le_of_ble_eq_true rfl) dX7_goTo_123 (fun H locs hP hS => ?_)
        obtain ⟨μ_14, eμ_14⟩ : ∃ z, put μ k_13 3 ((μ k_13 3) + ((μ k_13 2) * x2)) = z := ⟨_, rfl⟩
        rw [eμ_14] at hP
        have hf := bnd_eq hf _ eμ_14
        refine lv_iinc (v := x3 + 1) (lv' := [(3, .int (x3 + 1)), (4, .ref (g.ad k_13)), (0, .ref (g.ad 0)), (1, .int x1), (2, .int x2)]) hx hb dX7_goTo_126 hl (k := 4) rfl rfl (by decide) rfl (fun ls hl => ?_)
        refine lv_goto (tgt := 85) hx hb dX7_goTo_129 (by decide) ?_
        exact ih μ_14 x1 x2 (x3 + 1) _ _ _ hP hS (lv_sub hl [2, 3, 4, 0] rfl)  hf
  have L9 : ∀ (n : Nat) (μ : Mem) (x1 : Int32) (x2 : Int32) (x3 : Int32) (H : Heap) (locs : List Loc) (ls : Array Slot), Rg g μ H → va_S (Ag g s.heap.size) s.heap H locs → lv_has ls 5 [(0, .ref (g.ad 0)), (1, .int x1), (2, .int x2), (3, .int x3)] → b_X7_goTo_9 g n μ x1 x2 x3 = some r → W p l e (headSpec (ws_ yX7_goTo cX7_goTo 5 (Option.none : Option Jvm.ClassFile.FieldType)) (rm_ 3 64 0 0)).room s m ([.ref (g.ad 0), .int th] : List Value).toArray below meth c H locs 0 0 (MQ below (va_Qv (fun _ : Unit => True) (fun _ t => Rg g r t.heap) (Ag g s.heap.size)) ([.ref (g.ad 0), .int th] : List Value).toArray s 0 0 (Ag g s.heap.size)) (F0 m 9 ls []) := by
    intro n
    induction n with
    | zero => intro μ x1 x2 x3 H locs ls hP hS hl  hf; cases hf
    | succ n ih =>
      intro μ x1 x2 x3 H locs ls hP hS hl  hf
      rw [b_X7_goTo_9] at hf
      refine lv_iload_n hx hb dX7_goTo_9 rfl (lv_at hl 3 rfl) ?_
      refine lv_aload_n hx hb dX7_goTo_10 rfl (lv_at hl 0 rfl) ?_
      refine r_get hx hb hts i_X7 hown hT hP inW (fs := (fsW g)) (obW g) rfl 2 (by decide) q190 (fun _ h9 => h9) rfl dX7_goTo_11 ?_
      refine va_calli (va_runV (As := []) (rest := [.int x3]) ⟨hx, hb, hml, hown, hts⟩ (c_Jx4a65c_size_8abf5 l hg μ in98 (szR g)) (cwV 0 hts (gd_V q325 q326 q327 q40 q328) rfl rfl rfl hd_Jx4a65c_size_8abf5 ⟨Nat.le_of_ble_eq_true rfl, Nat.le_of_ble_eq_true rfl⟩) ⟨Pz.blind, r_recv hT hP in98 (fs := fun _ => [.int 0, .ref (g.ad (99)), .int (nI (g.sz 0))]) (szR g) rfl, fun U hU hW => ⟨rfl, Tb.warm hW hT, by rw [hU]; exact hP⟩⟩ rfl rfl hl.1 rfl (lv_room (Nat.le_of_ble_eq_true rfl)) dX7_goTo_14 ⟨Nat.le_of_ble_eq_true rfl, Nat.le_of_ble_eq_true rfl⟩) hS (fun q _ h => h.elim) (fun q h => h.elim) (fun v9 u9 t9 H locs ht9 hvm9 hw9 hB9 hz9 hk9 hS => ?_)
      have hP := Rg.keep hP (fun q h => hk9 q h id)
      rw [hw9]
      refine lv_icmp_ge (tgt := 83) hx hb dX7_goTo_17 (by decide) (fun c_1 => ?_) (fun c_1 => ?_)
      · have hf := (if_pos c_1).symm.trans hf
        refine lv_iconst (v := 0) hx hb dX7_goTo_83 (by decide) ?_
        refine lv_istore_n (lv' := [(3, .int 0), (0, .ref (g.ad 0)), (1, .int x1), (2, .int x2)]) hx hb dX7_goTo_84 rfl hl (by decide) rfl (fun ls hl => ?_)
        exact L85 fu μ x1 x2 0 _ _ _ hP hS (lv_sub hl [1, 2, 3, 0] rfl)  hf
      · have hf := (if_neg c_1).symm.trans hf
        refine lv_aload_n hx hb dX7_goTo_20 rfl (lv_at hl 0 rfl) ?_
        refine r_get hx hb hts i_X7 hown hT hP inW (fs := (fsW g)) (obW g) rfl 2 (by decide) q190 (fun _ h9 => h9) rfl dX7_goTo_21 ?_
        refine lv_iload_n hx hb dX7_goTo_24 rfl (lv_at hl 3 rfl) ?_
        obtain ⟨hi_2, hf⟩ := grd_some hf
        have hj_3 : x3.toNatClampNeg < g.sz 0 := Nat.not_le.mp (fun z => hi_2 (Or.inr z))
        refine va_callq (va_runV (As := [.int x3]) (rest := []) ⟨hx, hb, hml, hown, hts⟩ (c_Jx4a65c_get_915e3 l hg μ (lsR hg) (nI_self (fun z => hi_2 (Or.inl z))) hj_3) (cwV 1 hts (gd_V q329 q330 q331 q40 q332) rfl rfl rfl hd_Jx4a65c_get_915e3 ⟨Nat.le_of_ble_eq_true rfl, Nat.le_of_ble_eq_true rfl⟩) ⟨Pz.blind, r_recv hT hP in98 (fs := fun _ => [.int 0, .ref (g.ad (99)), .int (nI (g.sz 0))]) (szR g) rfl, fun U hU hW => ⟨rfl, Tb.warm hW hT, by rw [hU]; exact hP⟩⟩ rfl rfl hl.1 rfl (lv_room (Nat.le_of_ble_eq_true rfl)) dX7_goTo_25 ⟨Nat.le_of_ble_eq_true rfl, Nat.le_of_ble_eq_true rfl⟩) hS (fun q _ h => h.elim) (fun q h => h.elim) (fun v9 u9 t9 H locs ht9 hvm9 hw9 hB9 hz9 hk9 hS => ?_)
        have hP := Rg.keep hP (fun q h => hk9 q h id)
        rw [hw9, fnL_in hj_3]
        refine W.eq (g2 := F0 m 28 ls (.ref (g.ad (102 + x3.toNatClampNeg)) :: [])) rfl ?_
        obtain ⟨k_4, ek_4⟩ : ∃ z, 102 + x3.toNatClampNeg = z := ⟨_, rfl⟩
        rw [ek_4]
        have hf := bnd_eq hf _ ek_4
        obtain ⟨hk_4, hf⟩ := grd_some hf
        refine r_cast hx hb hts hown hT hP (inR hk_4) (fs := fsR) (obR hk_4) rfl q405 dX7_goTo_28 ?_
        refine lv_astore (lv' := [(4, .ref (g.ad k_4)), (0, .ref (g.ad 0)), (1, .int x1), (2, .int x2), (3, .int x3)]) hx hb dX7_goTo_31 hl (by decide) rfl (fun ls hl => ?_)
        refine lv_aload hx hb dX7_goTo_33 (lv_at hl 0 rfl) ?_
        refine lv_dup hx hb dX7_goTo_35 rfl ?_
        refine r_get hx hb hts i_X3 hown hT hP (inR hk_4) (fs := fsR) (obR hk_4) rfl 4 (by decide) q958 (fun _ h9 => h9) rfl dX7_goTo_36 ?_
        refine lv_aload hx hb dX7_goTo_39 (lv_at hl 0 rfl) ?_
        refine r_get hx hb hts i_X3 hown hT hP (inR hk_4) (fs := fsR) (obR hk_4) rfl 2 (by decide) q953 (fun _ h9 => h9) rfl dX7_goTo_41 ?_
        refine lv_aload hx hb dX7_goTo_44 (lv_at hl 0 rfl) ?_
        refine r_get hx hb hts i_X3 hown hT hP (inR hk_4) (fs := fsR) (obR hk_4) rfl 3 (by decide) q955 (fun _ h9 => h9) rfl dX7_goTo_46 ?_
        refine lv_isub hx hb dX7_goTo_49 ?_
        refine lv_iload_n hx hb dX7_goTo_50 rfl (lv_at hl 3 rfl) ?_
        refine lv_imul hx hb dX7_goTo_51 ?_
        refine lv_iadd hx hb dX7_goTo_52 ?_
        refine r_put hx hb hts i_X3 tyX3 tyX3_ok nmX3 hown hT hP hD hS (inR hk_4) (fs := fsR) (obR hk_4) rfl 4 (by decide) q958 (fun _ h9 => h9) rfl (ty := .int) (x := (μ k_4 4) + (((μ k_4 2) - (μ k_4 3)) * x2)) rfl rfl rfl (fun _ => rfl) (Nat.le_of_ble_eq_true rfl) dX7_goTo_53 (fun H locs hP hS => ?_)
        obtain ⟨μ_5, eμ_5⟩ : ∃ z, put μ k_4 4 ((μ k_4 4) + (((μ k_4 2) - (μ k_4 3)) * x2)) = z := ⟨_, rfl⟩
        rw [eμ_5] at hP
        have hf := bnd_eq hf _ eμ_5
        refine lv_aload hx hb dX7_goTo_56 (lv_at hl 0 rfl) ?_
        refine lv_dup hx hb dX7_goTo_58 rfl ?_
        refine r_get hx hb hts i_X3 hown hT hP (inR hk_4) (fs := fsR) (obR hk_4) rfl 5 (by decide) q961 (fun _ h9 => h9) rfl dX7_goTo_59 ?_
        refine lv_aload_n hx hb dX7_goTo_62 rfl (lv_at hl 1 rfl) ?_
        refine lv_aload hx hb dX7_goTo_63 (lv_at hl 0 rfl) ?_
        refine r_get hx hb hts i_X3 hown hT hP (inR hk_4) (fs := fsR) (obR hk_4) rfl 0 (by decide) q948 (fun _ h9 => h9) rfl dX7_goTo_65 ?_
        obtain ⟨r_6, hc_7, hf⟩ := bnO_some hf
        refine va_calli (va_runV (As := [.int (μ_5 k_4 0)]) (rest := [.int (μ_5 k_4 5), .ref (g.ad k_4)]) ⟨hx, hb, hml, hown, hts⟩ (c_X7_countIn l hg μ_5 (μ_5 k_4 0)  hc_7) (cwV 1 hts (gd_V q406 q407 q408 q41 q409) rfl rfl rfl hd_X7_countIn ⟨Nat.le_of_ble_eq_true rfl, Nat.le_of_ble_eq_true rfl⟩) ⟨Pz.blind, r_recv hT hP inW (fs := (fsW g)) (obW g) rfl, fun U hU hW => ⟨rfl, Tb.warm hW hT, by rw [hU]; exact hP⟩⟩ rfl rfl hl.1 rfl (lv_room (Nat.le_of_ble_eq_true rfl)) dX7_goTo_68 ⟨Nat.le_of_ble_eq_true rfl, Nat.le_of_ble_eq_true rfl⟩) hS (fun q _ h => h.elim) (fun q h => h.elim) (fun v9 u9 t9 H locs ht9 hvm9 hw9 hB9 hz9 hk9 hS => ?_)
        have hP := Rg.keep hP (fun q h => hk9 q h id)
        rw [hw9]
        refine lv_iload_n hx hb dX7_goTo_71 rfl (lv_at hl 3 rfl) ?_
        refine lv_imul hx hb dX7_goTo_72 ?_
        refine lv_iadd hx hb dX7_goTo_73 ?_
        refine r_put hx hb hts i_X3 tyX3 tyX3_ok nmX3 hown hT hP hD hS (inR hk_4) (fs := fsR) (obR hk_4) rfl 5 (by decide) q961 (fun _ h9 => h9) rfl (ty := .int) (x := (μ_5 k_4 5) + (r_6 * x2)) rfl rfl rfl (fun _ => rfl) (Nat.le_of_ble_eq_true rfl) dX7_goTo_74 (fun H locs hP hS => ?_)
        obtain ⟨μ_8, eμ_8⟩ : ∃ z, put μ_5 k_4 5 ((μ_5 k_4 5) + (r_6 * x2)) = z := ⟨_, rfl⟩
        rw [eμ_8] at hP
        have hf := bnd_eq hf _ eμ_8
        refine lv_iinc (v := x3 + 1) (lv' := [(3, .int (x3 + 1)), (4, .ref (g.ad k_4)), (0, .ref (g.ad 0)), (1, .int x1), (2, .int x2)]) hx hb dX7_goTo_77 hl (k := 4) rfl rfl (by decide) rfl (fun ls hl => ?_)
        refine lv_goto (tgt := 9) hx hb dX7_goTo_80 (by decide) ?_
        exact ih μ_8 x1 x2 (x3 + 1) _ _ _ hP hS (lv_sub hl [2, 3, 4, 0] rfl)  hf
  have hl := lv_entry ([.ref (g.ad 0), .int th]) (n := 5) (Nat.le_of_ble_eq_true rfl)
  rw [lg_entry_eq]
  generalize (lg_sl ([.ref (g.ad 0), .int th]) ++ List.replicate (5 - (lg_sl ([.ref (g.ad 0), .int th])).length) Slot.unset).toArray = ls at hl ⊢
  have hl : lv_has ls 5 [(0, .ref (g.ad 0)), (1, .int th)] := hl
  unfold f_X7_goTo at hf
  refine lv_iload_n hx hb dX7_goTo_0 rfl (lv_at hl 1 rfl) ?_
  refine lv_aload_n hx hb dX7_goTo_1 rfl (lv_at hl 0 rfl) ?_
  refine r_get hx hb hts i_X7 hown hT hP inW (fs := (fsW g)) (obW g) rfl 6 (by decide) q197 (fun _ h9 => h9) rfl dX7_goTo_2 ?_
  refine lv_isub hx hb dX7_goTo_5 ?_
  refine lv_istore_n (lv' := [(2, .int (th - (μ 0 6))), (0, .ref (g.ad 0)), (1, .int th)]) hx hb dX7_goTo_6 rfl hl (by decide) rfl (fun ls hl => ?_)
  refine lv_iconst (v := 0) hx hb dX7_goTo_7 (by decide) ?_
  refine lv_istore_n (lv' := [(3, .int 0), (2, .int (th - (μ 0 6))), (0, .ref (g.ad 0)), (1, .int th)]) hx hb dX7_goTo_8 rfl hl (by decide) rfl (fun ls hl => ?_)
  exact L9 fu μ th (th - (μ 0 6)) 0 _ _ _ hP hS (lv_sub hl [2, 3, 1, 0] rfl)  hf
/-- "Sandglass$World" "wakeAll" "(I)V" -/
def b_X7_wakeAll_2 (g : Geo) : Nat → Mem → Int32 → Int32 → Option (Mem)
  | 0, _, _, _ => none
  | n + 1, μ, x1, x2 => if 24 ≤ x2 then (some μ) else (bnO (f_X7_firstIn g μ x1) fun r_2 => csQ r_2 (some μ) (fun o_4 => grd (1 ≤ o_4 ∧ o_4 < 25) (bnd (put μ o_4 9 (-1)) fun μ_5 => bnO (f_X7_schedule g μ_5 o_4 0 0) fun μ_8 => b_X7_wakeAll_2 g n μ_8 x1 (x2 + 1))))
def f_X7_wakeAll (g : Geo) (μ : Mem) (row : Int32) : Option (Mem) := b_X7_wakeAll_2 g fu μ row 0
theorem hd_X7_wakeAll : yX7_wakeAll.cls = RX7 ∧ yX7_wakeAll.cls ≠ "java/lang/invoke/MethodHandle" ∧ yX7_wakeAll.cls ≠ "java/lang/invoke/VarHandle" ∧ (parseMethodDescriptor yX7_wakeAll.desc).map (fun d => d.parameters.length) = some 1 := by decide +kernel
set_option maxHeartbeats 4000000 in
set_option maxRecDepth 100000 in
theorem c_X7_wakeAll (l : Launch) {g : Geo} (hg : Good g) (μ : Mem) (sz : Nat) (row : Int32) {r : Mem} (hf : f_X7_wakeAll g μ row = some r) : Met l yX7_wakeAll (ws_ yX7_wakeAll cX7_wakeAll 4 (Option.none : Option Jvm.ClassFile.FieldType)) (rm_ 2 47 0 0) (Pz g [.ref (g.ad 0), .int row] (fun H9 => H9.size = sz ∧ Rg g μ H9)) (va_Qv (fun _ : Unit => True) (fun _ t => Rg g r t.heap) (Ag g sz)) 0 0 (Ag g sz) := by
  refine Met.ofW (cc := cX7_wakeAll) (maxL := 4) (ret := (Option.none : Option Jvm.ClassFile.FieldType)) (by decide) rfl ?_
  intro p e s m args below meth c s₁ B hml hv
  obtain ⟨rfl, hT, hsz, hP⟩ := hv
  have hx := B.exec
  have hb := B.bytes
  have hr := B.returns
  have hts : ∀ w ∈ lw_all, w.before _ s = true := fun w h => atoms_spec (ws := (ws_ yX7_wakeAll cX7_wakeAll 4 (Option.none : Option Jvm.ClassFile.FieldType))) B.pre w (List.mem_cons_of_mem _ h)
  have hown : s.vm.findClass RX7 = some m.cls := findClass_of_methodNamed B.named
  have hlocks := B.notSynchronized
  subst hsz
  have hD := fun ν => Ag.apart hg s.heap.size ν
  have hS : va_S (Ag g s.heap.size) s.heap s.heap [] := va_S.rf
  have L2 : ∀ (n : Nat) (μ : Mem) (x1 : Int32) (x2 : Int32) (H : Heap) (locs : List Loc) (ls : Array Slot), Rg g μ H → va_S (Ag g s.heap.size) s.heap H locs → lv_has ls 4 [(0, .ref (g.ad 0)), (1, .int x1), (2, .int x2)] → b_X7_wakeAll_2 g n μ x1 x2 = some r → W p l e (headSpec (ws_ yX7_wakeAll cX7_wakeAll 4 (Option.none : Option Jvm.ClassFile.FieldType)) (rm_ 2 47 0 0)).room s m ([.ref (g.ad 0), .int row] : List Value).toArray below meth c H locs 0 0 (MQ below (va_Qv (fun _ : Unit => True) (fun _ t => Rg g r t.heap) (Ag g s.heap.size)) ([.ref (g.ad 0), .int row] : List Value).toArray s 0 0 (Ag g s.heap.size)) (F0 m 2 ls []) := by
    intro n
    induction n with
    | zero => intro μ x1 x2 H locs ls hP hS hl  hf; cases hf
    | succ n ih =>
      intro μ x1 x2 H locs ls hP hS hl  hf
      rw [b_X7_wakeAll_2] at hf
      refine lv_iload_n hx hb dX7_wakeAll_2 rfl (lv_at hl 2 rfl) ?_
      refine lv_bipush (v := 24) hx hb dX7_wakeAll_3 (by decide) ?_
      refine lv_icmp_ge (tgt := 37) hx hb dX7_wakeAll_5 (by decide) (fun c_1 => ?_) (fun c_1 => ?_)
      · have hf := (if_pos c_1).symm.trans hf
        exact W.vret hx hb hr (fun t9 ht hW => ⟨⟨(), rfl, trivial, by show Rg g r t9.heap; rw [ht, ← Option.some.inj hf]; exact hP⟩, hS.F ht⟩) hS.2.2 dX7_wakeAll_37
      · have hf := (if_neg c_1).symm.trans hf
        refine lv_aload_n hx hb dX7_wakeAll_8 rfl (lv_at hl 0 rfl) ?_
        refine lv_iload_n hx hb dX7_wakeAll_9 rfl (lv_at hl 1 rfl) ?_
        obtain ⟨r_2, hc_3, hf⟩ := bnO_some hf
        refine va_callq (va_runV (As := [.int x1]) (rest := []) ⟨hx, hb, hml, hown, hts⟩ (c_X7_firstIn l hg μ x1  hc_3) (cwV 1 hts (gd_V q446 q448 q7 q41 q449) rfl rfl rfl hd_X7_firstIn ⟨Nat.le_of_ble_eq_true rfl, Nat.le_of_ble_eq_true rfl⟩) ⟨Pz.blind, r_recv hT hP inW (fs := (fsW g)) (obW g) rfl, fun U hU hW => ⟨rfl, Tb.warm hW hT, by rw [hU]; exact hP⟩⟩ rfl rfl hl.1 rfl (lv_room (Nat.le_of_ble_eq_true rfl)) dX7_wakeAll_10 ⟨Nat.le_of_ble_eq_true rfl, Nat.le_of_ble_eq_true rfl⟩) hS (fun q _ h => h.elim) (fun q h => h.elim) (fun v9 u9 t9 H locs ht9 hvm9 hw9 hB9 hz9 hk9 hS => ?_)
        have hP := Rg.keep hP (fun q h => hk9 q h id)
        rw [hw9]
        cases r_2 with
        | none =>
          dsimp only [csQ] at hf
          refine W.eq (g2 := F0 m 13 ls [.null]) rfl ?_
          refine lv_astore_nN (lv' := [(3, .null), (0, .ref (g.ad 0)), (1, .int x1), (2, .int x2)]) hx hb dX7_wakeAll_13 rfl hl (by decide) rfl (fun ls hl => ?_)
          refine lv_aload_nN hx hb dX7_wakeAll_14 rfl (lv_at hl 0 rfl) ?_
          refine lv_ifnonnullN hx hb dX7_wakeAll_15 ?_
          exact W.vret hx hb hr (fun t9 ht hW => ⟨⟨(), rfl, trivial, by show Rg g r t9.heap; rw [ht, ← Option.some.inj hf]; exact hP⟩, hS.F ht⟩) hS.2.2 dX7_wakeAll_18
        | some o_4 =>
          dsimp only [csQ] at hf
          obtain ⟨ho_4, hf⟩ := grd_some hf
          refine W.eq (g2 := F0 m 13 ls [.ref (g.ad o_4)]) rfl ?_
          refine lv_astore_n (lv' := [(3, .ref (g.ad o_4)), (0, .ref (g.ad 0)), (1, .int x1), (2, .int x2)]) hx hb dX7_wakeAll_13 rfl hl (by decide) rfl (fun ls hl => ?_)
          refine lv_aload_n hx hb dX7_wakeAll_14 rfl (lv_at hl 0 rfl) ?_
          refine lv_ifnonnull (tgt := 19) hx hb dX7_wakeAll_15 (by decide) ?_
          refine lv_aload_n hx hb dX7_wakeAll_19 rfl (lv_at hl 0 rfl) ?_
          refine lv_iconst (v := (-1)) hx hb dX7_wakeAll_20 (by decide) ?_
          refine r_put hx hb hts i_X2 tyX2 tyX2_ok nmX2 hown hT hP hD hS (inP ho_4) (fs := (fsP g o_4)) (obP ho_4) rfl 9 (by decide) q136 (fun _ h9 => h9) rfl (ty := .int) (x := (-1)) rfl rfl rfl (fun _ => rfl) (Nat.le_of_ble_eq_true rfl) dX7_wakeAll_21 (fun H locs hP hS => ?_)
          obtain ⟨μ_5, eμ_5⟩ : ∃ z, put μ o_4 9 (-1) = z := ⟨_, rfl⟩
          rw [eμ_5] at hP
          have hf := bnd_eq hf _ eμ_5
          refine lv_aload_n hx hb dX7_wakeAll_24 rfl (lv_at hl 1 rfl) ?_
          refine lv_aload_n hx hb dX7_wakeAll_25 rfl (lv_at hl 0 rfl) ?_
          refine lv_iconst (v := 0) hx hb dX7_wakeAll_26 (by decide) ?_
          refine lv_iconst (v := 0) hx hb dX7_wakeAll_27 (by decide) ?_
          obtain ⟨μ_8, hc_7, hf⟩ := bnO_some hf
          refine va_callv (va_runV (As := [.ref (g.ad o_4), .int 0, .int 0]) (rest := []) ⟨hx, hb, hml, hown, hts⟩ (c_X7_schedule l hg μ_5 H.size o_4 0 0 ho_4 hc_7) (cwV 3 hts (gd_V q381 q382 q383 q41 q384) rfl rfl rfl hd_X7_schedule ⟨Nat.le_of_ble_eq_true rfl, Nat.le_of_ble_eq_true rfl⟩) ⟨Pz.blind, r_recv hT hP inW (fs := (fsW g)) (obW g) rfl, fun U hU hW => ⟨rfl, Tb.warm hW hT, by rw [hU], by rw [hU]; exact hP⟩⟩ rfl rfl hl.1 rfl (lv_room (Nat.le_of_ble_eq_true rfl)) dX7_wakeAll_28 ⟨Nat.le_of_ble_eq_true rfl, Nat.le_of_ble_eq_true rfl⟩) hS (fun q _ h => Ag.sub rfl hS q h) (fun q h => Ag.sub rfl hS q h) (fun u9 t9 H locs ht9 hvm9 hw9 hB9 hz9 hk9 hS => ?_)
          have hP : Rg g μ_8 H := by rw [← ht9]; exact hB9
          refine lv_iinc (v := x2 + 1) (lv' := [(2, .int (x2 + 1)), (3, .ref (g.ad o_4)), (0, .ref (g.ad 0)), (1, .int x1)]) hx hb dX7_wakeAll_31 hl (k := 3) rfl rfl (by decide) rfl (fun ls hl => ?_)
          refine lv_goto (tgt := 2) hx hb dX7_wakeAll_34 (by decide) ?_
          exact ih μ_8 x1 (x2 + 1) _ _ _ hP hS (lv_sub hl [2, 3, 0] rfl)  hf
  have hl := lv_entry ([.ref (g.ad 0), .int row]) (n := 4) (Nat.le_of_ble_eq_true rfl)
  rw [lg_entry_eq]
  generalize (lg_sl ([.ref (g.ad 0), .int row]) ++ List.replicate (4 - (lg_sl ([.ref (g.ad 0), .int row])).length) Slot.unset).toArray = ls at hl ⊢
  have hl : lv_has ls 4 [(0, .ref (g.ad 0)), (1, .int row)] := hl
  unfold f_X7_wakeAll at hf
  refine lv_iconst (v := 0) hx hb dX7_wakeAll_0 (by decide) ?_
  refine lv_istore_n (lv' := [(2, .int 0), (0, .ref (g.ad 0)), (1, .int row)]) hx hb dX7_wakeAll_1 rfl hl (by decide) rfl (fun ls hl => ?_)
  exact L2 fu μ row 0 _ _ _ hP hS (lv_sub hl [1, 2, 0] rfl)  hf
/-- "Sandglass$World" "goAgain" "(LSandglass$Proc;LSandglass$Instruction;)V" -/
def f_X7_goAgain (g : Geo) (μ : Mem) (q : Nat) (nw : Nat) : Option (Mem) := bnO (f_X8_at g μ (q + 24) (μ nw 0)) fun r_1 => if (μ nw 3) ≤ r_1 then (bnO (f_X8_set g μ (q + 24) (μ nw 0) 0) fun μ_6 => some μ_6) else (bnO (f_X8_set g μ (q + 24) (μ nw 0) (r_1 + 1)) fun μ_9 => bnd (put μ_9 q 3 (μ_9 nw 2)) fun μ_10 => some μ_10)
theorem hd_X7_goAgain : yX7_goAgain.cls = RX7 ∧ yX7_goAgain.cls ≠ "java/lang/invoke/MethodHandle" ∧ yX7_goAgain.cls ≠ "java/lang/invoke/VarHandle" ∧ (parseMethodDescriptor yX7_goAgain.desc).map (fun d => d.parameters.length) = some 2 := by decide +kernel
set_option maxHeartbeats 4000000 in
set_option maxRecDepth 100000 in
theorem c_X7_goAgain (l : Launch) {g : Geo} (hg : Good g) (μ : Mem) (sz : Nat) (q : Nat) (nw : Nat) (hq : isP q) (hnw : isN g nw) {r : Mem} (hf : f_X7_goAgain g μ q nw = some r) : Met l yX7_goAgain (ws_ yX7_goAgain cX7_goAgain 4 (Option.none : Option Jvm.ClassFile.FieldType)) (rm_ 1 22 0 0) (Pz g [.ref (g.ad 0), .ref (g.ad q), .ref (g.ad nw)] (fun H9 => H9.size = sz ∧ Rg g μ H9)) (va_Qv (fun _ : Unit => True) (fun _ t => Rg g r t.heap) (Ag g sz)) 0 0 (Ag g sz) := by
  refine Met.ofW (cc := cX7_goAgain) (maxL := 4) (ret := (Option.none : Option Jvm.ClassFile.FieldType)) (by decide) rfl ?_
  intro p e s m args below meth c s₁ B hml hv
  obtain ⟨rfl, hT, hsz, hP⟩ := hv
  have hx := B.exec
  have hb := B.bytes
  have hr := B.returns
  have hts : ∀ w ∈ lw_all, w.before _ s = true := fun w h => atoms_spec (ws := (ws_ yX7_goAgain cX7_goAgain 4 (Option.none : Option Jvm.ClassFile.FieldType))) B.pre w (List.mem_cons_of_mem _ h)
  have hown : s.vm.findClass RX7 = some m.cls := findClass_of_methodNamed B.named
  have hlocks := B.notSynchronized
  subst hsz
  have hD := fun ν => Ag.apart hg s.heap.size ν
  have hS : va_S (Ag g s.heap.size) s.heap s.heap [] := va_S.rf
  have hl := lv_entry ([.ref (g.ad 0), .ref (g.ad q), .ref (g.ad nw)]) (n := 4) (Nat.le_of_ble_eq_true rfl)
  rw [lg_entry_eq]
  generalize (lg_sl ([.ref (g.ad 0), .ref (g.ad q), .ref (g.ad nw)]) ++ List.replicate (4 - (lg_sl ([.ref (g.ad 0), .ref (g.ad q), .ref (g.ad nw)])).length) Slot.unset).toArray = ls at hl ⊢
  have hl : lv_has ls 4 [(0, .ref (g.ad 0)), (1, .ref (g.ad q)), (2, .ref (g.ad nw))] := hl
  unfold f_X7_goAgain at hf
  refine lv_aload_n hx hb dX7_goAgain_0 rfl (lv_at hl 1 rfl) ?_
  refine r_get hx hb hts i_X2 hown hT hP (inP hq) (fs := (fsP g q)) (obP hq) rfl 14 (by decide) q146 (fun _ h9 => h9) rfl dX7_goAgain_1 ?_
  refine lv_aload_n hx hb dX7_goAgain_4 rfl (lv_at hl 2 rfl) ?_
  refine r_get hx hb hts i_X1 hown hT hP (inN hnw) (fs := fsS) (obN hnw) rfl 0 (by decide) q1116 (fun _ h9 => h9) rfl dX7_goAgain_5 ?_
  obtain ⟨r_1, hc_2, hf⟩ := bnO_some hf
  refine va_calli (va_runSN (As := [.ref (g.ad (q + 24)), .int (μ nw 0)]) (rest := []) ⟨hx, hb, hml, hown, hts⟩ (c_X8_at l hg μ (q + 24) (μ nw 0) (show isP _ from hq).cnt hc_2) ⟨va_cnB 2 hts (gd_code q464) rfl rfl rfl (hT.2 _ (nst_3)) (hts _ q37) hd_X8_at.2 ⟨Nat.le_of_ble_eq_true rfl, Nat.le_of_ble_eq_true rfl⟩, hts _ q463, trivial⟩ ⟨Pz.blind, fun U hU hW => ⟨rfl, Tb.warm hW hT, by rw [hU]; exact hP⟩⟩ rfl rfl hl.1 rfl (lv_room (Nat.le_of_ble_eq_true rfl)) dX7_goAgain_8 ⟨Nat.le_of_ble_eq_true rfl, Nat.le_of_ble_eq_true rfl⟩) hS (fun q _ h => h.elim) (fun q h => h.elim) (fun v9 u9 t9 H locs ht9 hvm9 hw9 hB9 hz9 hk9 hS => ?_)
  have hP := Rg.keep hP (fun q h => hk9 q h id)
  rw [hw9]
  refine lv_istore_n (lv' := [(3, .int r_1), (0, .ref (g.ad 0)), (1, .ref (g.ad q)), (2, .ref (g.ad nw))]) hx hb dX7_goAgain_11 rfl hl (by decide) rfl (fun ls hl => ?_)
  refine lv_iload_n hx hb dX7_goAgain_12 rfl (lv_at hl 0 rfl) ?_
  refine lv_aload_n hx hb dX7_goAgain_13 rfl (lv_at hl 3 rfl) ?_
  refine r_get hx hb hts i_X1 hown hT hP (inN hnw) (fs := fsS) (obN hnw) rfl 3 (by decide) q1122 (fun _ h9 => h9) rfl dX7_goAgain_14 ?_
  refine lv_icmp_ge (tgt := 45) hx hb dX7_goAgain_17 (by decide) (fun c_3 => ?_) (fun c_3 => ?_)
  · have hf := (if_pos c_3).symm.trans hf
    refine lv_aload_n hx hb dX7_goAgain_45 rfl (lv_at hl 2 rfl) ?_
    refine r_get hx hb hts i_X2 hown hT hP (inP hq) (fs := (fsP g q)) (obP hq) rfl 14 (by decide) q146 (fun _ h9 => h9) rfl dX7_goAgain_46 ?_
    refine lv_aload_n hx hb dX7_goAgain_49 rfl (lv_at hl 3 rfl) ?_
    refine r_get hx hb hts i_X1 hown hT hP (inN hnw) (fs := fsS) (obN hnw) rfl 0 (by decide) q1116 (fun _ h9 => h9) rfl dX7_goAgain_50 ?_
    refine lv_iconst (v := 0) hx hb dX7_goAgain_53 (by decide) ?_
    obtain ⟨μ_6, hc_5, hf⟩ := bnO_some hf
    refine va_callv (va_runSN (As := [.ref (g.ad (q + 24)), .int (μ nw 0), .int 0]) (rest := []) ⟨hx, hb, hml, hown, hts⟩ (c_X8_set l hg μ H.size (q + 24) (μ nw 0) 0 (show isP _ from hq).cnt hc_5) ⟨va_cnB 3 hts (gd_code q480) rfl rfl rfl (hT.2 _ (nst_4)) (hts _ q37) hd_X8_set.2 ⟨Nat.le_of_ble_eq_true rfl, Nat.le_of_ble_eq_true rfl⟩, hts _ q479, trivial⟩ ⟨Pz.blind, fun U hU hW => ⟨rfl, Tb.warm hW hT, by rw [hU], by rw [hU]; exact hP⟩⟩ rfl rfl hl.1 rfl (lv_room (Nat.le_of_ble_eq_true rfl)) dX7_goAgain_54 ⟨Nat.le_of_ble_eq_true rfl, Nat.le_of_ble_eq_true rfl⟩) hS (fun q _ h => Ag.sub rfl hS q h) (fun q h => Ag.sub rfl hS q h) (fun u9 t9 H locs ht9 hvm9 hw9 hB9 hz9 hk9 hS => ?_)
    have hP : Rg g μ_6 H := by rw [← ht9]; exact hB9
    exact W.vret hx hb hr (fun t9 ht hW => ⟨⟨(), rfl, trivial, by show Rg g r t9.heap; rw [ht, ← Option.some.inj hf]; exact hP⟩, hS.F ht⟩) hS.2.2 dX7_goAgain_57
  · have hf := (if_neg c_3).symm.trans hf
    refine lv_aload_n hx hb dX7_goAgain_20 rfl (lv_at hl 2 rfl) ?_
    refine r_get hx hb hts i_X2 hown hT hP (inP hq) (fs := (fsP g q)) (obP hq) rfl 14 (by decide) q146 (fun _ h9 => h9) rfl dX7_goAgain_21 ?_
    refine lv_aload_n hx hb dX7_goAgain_24 rfl (lv_at hl 3 rfl) ?_
    refine r_get hx hb hts i_X1 hown hT hP (inN hnw) (fs := fsS) (obN hnw) rfl 0 (by decide) q1116 (fun _ h9 => h9) rfl dX7_goAgain_25 ?_
    refine lv_iload_n hx hb dX7_goAgain_28 rfl (lv_at hl 0 rfl) ?_
    refine lv_iconst (v := 1) hx hb dX7_goAgain_29 (by decide) ?_
    refine lv_iadd hx hb dX7_goAgain_30 ?_
    obtain ⟨μ_9, hc_8, hf⟩ := bnO_some hf
    refine va_callv (va_runSN (As := [.ref (g.ad (q + 24)), .int (μ nw 0), .int (r_1 + 1)]) (rest := []) ⟨hx, hb, hml, hown, hts⟩ (c_X8_set l hg μ H.size (q + 24) (μ nw 0) (r_1 + 1) (show isP _ from hq).cnt hc_8) ⟨va_cnB 3 hts (gd_code q480) rfl rfl rfl (hT.2 _ (nst_4)) (hts _ q37) hd_X8_set.2 ⟨Nat.le_of_ble_eq_true rfl, Nat.le_of_ble_eq_true rfl⟩, hts _ q479, trivial⟩ ⟨Pz.blind, fun U hU hW => ⟨rfl, Tb.warm hW hT, by rw [hU], by rw [hU]; exact hP⟩⟩ rfl rfl hl.1 rfl (lv_room (Nat.le_of_ble_eq_true rfl)) dX7_goAgain_31 ⟨Nat.le_of_ble_eq_true rfl, Nat.le_of_ble_eq_true rfl⟩) hS (fun q _ h => Ag.sub rfl hS q h) (fun q h => Ag.sub rfl hS q h) (fun u9 t9 H locs ht9 hvm9 hw9 hB9 hz9 hk9 hS => ?_)
    have hP : Rg g μ_9 H := by rw [← ht9]; exact hB9
    refine lv_aload_n hx hb dX7_goAgain_34 rfl (lv_at hl 2 rfl) ?_
    refine lv_aload_n hx hb dX7_goAgain_35 rfl (lv_at hl 3 rfl) ?_
    refine r_get hx hb hts i_X1 hown hT hP (inN hnw) (fs := fsS) (obN hnw) rfl 2 (by decide) q1120 (fun _ h9 => h9) rfl dX7_goAgain_36 ?_
    refine r_put hx hb hts i_X2 tyX2 tyX2_ok nmX2 hown hT hP hD hS (inP hq) (fs := (fsP g q)) (obP hq) rfl 3 (by decide) q119 (fun _ h9 => h9) rfl (ty := .int) (x := μ_9 nw 2) rfl rfl rfl (fun _ => rfl) (Nat.le_of_ble_eq_true rfl) dX7_goAgain_39 (fun H locs hP hS => ?_)
    obtain ⟨μ_10, eμ_10⟩ : ∃ z, put μ_9 q 3 (μ_9 nw 2) = z := ⟨_, rfl⟩
    rw [eμ_10] at hP
    have hf := bnd_eq hf _ eμ_10
    refine lv_goto (tgt := 57) hx hb dX7_goAgain_42 (by decide) ?_
    exact W.vret hx hb hr (fun t9 ht hW => ⟨⟨(), rfl, trivial, by show Rg g r t9.heap; rw [ht, ← Option.some.inj hf]; exact hP⟩, hS.F ht⟩) hS.2.2 dX7_goAgain_57
/-- "Sandglass$World" "giveUnits" "(LSandglass$Proc;LSandglass$Resource;)V" -/
def f_X7_giveUnits (g : Geo) (μ : Mem) (q : Nat) (rs : Nat) : Option (Mem) := bnd (put μ 0 9 ((μ 0 9) + 1)) fun μ_1 => bnd (put μ_1 q 9 (-1)) fun μ_2 => bnd (put μ_2 rs 3 ((μ_2 rs 3) - (μ_2 q 12))) fun μ_3 => bnO (f_X8_at g μ_3 (q + 48) (μ_3 rs 0)) fun r_4 => bnO (f_X8_set g μ_3 (q + 48) (μ_3 rs 0) (r_4 + (μ_3 q 12))) fun μ_8 => bnO (f_X8_set g μ_8 (q + 72) (μ_8 rs 0) (μ_8 0 9)) fun μ_11 => some μ_11
theorem hd_X7_giveUnits : yX7_giveUnits.cls = RX7 ∧ yX7_giveUnits.cls ≠ "java/lang/invoke/MethodHandle" ∧ yX7_giveUnits.cls ≠ "java/lang/invoke/VarHandle" ∧ (parseMethodDescriptor yX7_giveUnits.desc).map (fun d => d.parameters.length) = some 2 := by decide +kernel
set_option maxHeartbeats 4000000 in
set_option maxRecDepth 100000 in
theorem c_X7_giveUnits (l : Launch) {g : Geo} (hg : Good g) (μ : Mem) (sz : Nat) (q : Nat) (rs : Nat) (hq : isP q) (hrs : isR g rs) {r : Mem} (hf : f_X7_giveUnits g μ q rs = some r) : Met l yX7_giveUnits (ws_ yX7_giveUnits cX7_giveUnits 3 (Option.none : Option Jvm.ClassFile.FieldType)) (rm_ 1 22 0 0) (Pz g [.ref (g.ad 0), .ref (g.ad q), .ref (g.ad rs)] (fun H9 => H9.size = sz ∧ Rg g μ H9)) (va_Qv (fun _ : Unit => True) (fun _ t => Rg g r t.heap) (Ag g sz)) 0 0 (Ag g sz) := by
  refine Met.ofW (cc := cX7_giveUnits) (maxL := 3) (ret := (Option.none : Option Jvm.ClassFile.FieldType)) (by decide) rfl ?_
  intro p e s m args below meth c s₁ B hml hv
  obtain ⟨rfl, hT, hsz, hP⟩ := hv
  have hx := B.exec
  have hb := B.bytes
  have hr := B.returns
  have hts : ∀ w ∈ lw_all, w.before _ s = true := fun w h => atoms_spec (ws := (ws_ yX7_giveUnits cX7_giveUnits 3 (Option.none : Option Jvm.ClassFile.FieldType))) B.pre w (List.mem_cons_of_mem _ h)
  have hown : s.vm.findClass RX7 = some m.cls := findClass_of_methodNamed B.named
  have hlocks := B.notSynchronized
  subst hsz
  have hD := fun ν => Ag.apart hg s.heap.size ν
  have hS : va_S (Ag g s.heap.size) s.heap s.heap [] := va_S.rf
  have hl := lv_entry ([.ref (g.ad 0), .ref (g.ad q), .ref (g.ad rs)]) (n := 3) (Nat.le_of_ble_eq_true rfl)
  rw [lg_entry_eq]
  generalize (lg_sl ([.ref (g.ad 0), .ref (g.ad q), .ref (g.ad rs)]) ++ List.replicate (3 - (lg_sl ([.ref (g.ad 0), .ref (g.ad q), .ref (g.ad rs)])).length) Slot.unset).toArray = ls at hl ⊢
  have hl : lv_has ls 3 [(0, .ref (g.ad 0)), (1, .ref (g.ad q)), (2, .ref (g.ad rs))] := hl
  unfold f_X7_giveUnits at hf
  refine lv_aload_n hx hb dX7_giveUnits_0 rfl (lv_at hl 0 rfl) ?_
  refine lv_dup hx hb dX7_giveUnits_1 rfl ?_
  refine r_get hx hb hts i_X7 hown hT hP inW (fs := (fsW g)) (obW g) rfl 9 (by decide) q203 (fun _ h9 => h9) rfl dX7_giveUnits_2 ?_
  refine lv_iconst (v := 1) hx hb dX7_giveUnits_5 (by decide) ?_
  refine lv_iadd hx hb dX7_giveUnits_6 ?_
  refine r_put hx hb hts i_X7 tyX7 tyX7_ok nmX7 hown hT hP hD hS inW (fs := (fsW g)) (obW g) rfl 9 (by decide) q203 (fun _ h9 => h9) rfl (ty := .int) (x := (μ 0 9) + 1) rfl rfl rfl (fun _ => rfl) (Nat.le_of_ble_eq_true rfl) dX7_giveUnits_7 (fun H locs hP hS => ?_)
  obtain ⟨μ_1, eμ_1⟩ : ∃ z, put μ 0 9 ((μ 0 9) + 1) = z := ⟨_, rfl⟩
  rw [eμ_1] at hP
  have hf := bnd_eq hf _ eμ_1
  refine lv_aload_n hx hb dX7_giveUnits_10 rfl (lv_at hl 1 rfl) ?_
  refine lv_iconst (v := (-1)) hx hb dX7_giveUnits_11 (by decide) ?_
  refine r_put hx hb hts i_X2 tyX2 tyX2_ok nmX2 hown hT hP hD hS (inP hq) (fs := (fsP g q)) (obP hq) rfl 9 (by decide) q136 (fun _ h9 => h9) rfl (ty := .int) (x := (-1)) rfl rfl rfl (fun _ => rfl) (Nat.le_of_ble_eq_true rfl) dX7_giveUnits_12 (fun H locs hP hS => ?_)
  obtain ⟨μ_2, eμ_2⟩ : ∃ z, put μ_1 q 9 (-1) = z := ⟨_, rfl⟩
  rw [eμ_2] at hP
  have hf := bnd_eq hf _ eμ_2
  refine lv_aload_n hx hb dX7_giveUnits_15 rfl (lv_at hl 2 rfl) ?_
  refine lv_dup hx hb dX7_giveUnits_16 rfl ?_
  refine r_get hx hb hts i_X3 hown hT hP (inR hrs) (fs := fsR) (obR hrs) rfl 3 (by decide) q955 (fun _ h9 => h9) rfl dX7_giveUnits_17 ?_
  refine lv_aload_n hx hb dX7_giveUnits_20 rfl (lv_at hl 1 rfl) ?_
  refine r_get hx hb hts i_X2 hown hT hP (inP hq) (fs := (fsP g q)) (obP hq) rfl 12 (by decide) q142 (fun _ h9 => h9) rfl dX7_giveUnits_21 ?_
  refine lv_isub hx hb dX7_giveUnits_24 ?_
  refine r_put hx hb hts i_X3 tyX3 tyX3_ok nmX3 hown hT hP hD hS (inR hrs) (fs := fsR) (obR hrs) rfl 3 (by decide) q955 (fun _ h9 => h9) rfl (ty := .int) (x := (μ_2 rs 3) - (μ_2 q 12)) rfl rfl rfl (fun _ => rfl) (Nat.le_of_ble_eq_true rfl) dX7_giveUnits_25 (fun H locs hP hS => ?_)
  obtain ⟨μ_3, eμ_3⟩ : ∃ z, put μ_2 rs 3 ((μ_2 rs 3) - (μ_2 q 12)) = z := ⟨_, rfl⟩
  rw [eμ_3] at hP
  have hf := bnd_eq hf _ eμ_3
  refine lv_aload_n hx hb dX7_giveUnits_28 rfl (lv_at hl 1 rfl) ?_
  refine r_get hx hb hts i_X2 hown hT hP (inP hq) (fs := (fsP g q)) (obP hq) rfl 15 (by decide) q149 (fun _ h9 => h9) rfl dX7_giveUnits_29 ?_
  refine lv_aload_n hx hb dX7_giveUnits_32 rfl (lv_at hl 2 rfl) ?_
  refine r_get hx hb hts i_X3 hown hT hP (inR hrs) (fs := fsR) (obR hrs) rfl 0 (by decide) q948 (fun _ h9 => h9) rfl dX7_giveUnits_33 ?_
  refine lv_aload_n hx hb dX7_giveUnits_36 rfl (lv_at hl 1 rfl) ?_
  refine r_get hx hb hts i_X2 hown hT hP (inP hq) (fs := (fsP g q)) (obP hq) rfl 15 (by decide) q149 (fun _ h9 => h9) rfl dX7_giveUnits_37 ?_
  refine lv_aload_n hx hb dX7_giveUnits_40 rfl (lv_at hl 2 rfl) ?_
  refine r_get hx hb hts i_X3 hown hT hP (inR hrs) (fs := fsR) (obR hrs) rfl 0 (by decide) q948 (fun _ h9 => h9) rfl dX7_giveUnits_41 ?_
  obtain ⟨r_4, hc_5, hf⟩ := bnO_some hf
  refine va_calli (va_runSN (As := [.ref (g.ad (q + 48)), .int (μ_3 rs 0)]) (rest := [.int (μ_3 rs 0), .ref (g.ad (q + 48))]) ⟨hx, hb, hml, hown, hts⟩ (c_X8_at l hg μ_3 (q + 48) (μ_3 rs 0) (show isP _ from hq).hld hc_5) ⟨va_cnB 2 hts (gd_code q464) rfl rfl rfl (hT.2 _ (nst_3)) (hts _ q37) hd_X8_at.2 ⟨Nat.le_of_ble_eq_true rfl, Nat.le_of_ble_eq_true rfl⟩, hts _ q463, trivial⟩ ⟨Pz.blind, fun U hU hW => ⟨rfl, Tb.warm hW hT, by rw [hU]; exact hP⟩⟩ rfl rfl hl.1 rfl (lv_room (Nat.le_of_ble_eq_true rfl)) dX7_giveUnits_44 ⟨Nat.le_of_ble_eq_true rfl, Nat.le_of_ble_eq_true rfl⟩) hS (fun q _ h => h.elim) (fun q h => h.elim) (fun v9 u9 t9 H locs ht9 hvm9 hw9 hB9 hz9 hk9 hS => ?_)
  have hP := Rg.keep hP (fun q h => hk9 q h id)
  rw [hw9]
  refine lv_aload_n hx hb dX7_giveUnits_47 rfl (lv_at hl 1 rfl) ?_
  refine r_get hx hb hts i_X2 hown hT hP (inP hq) (fs := (fsP g q)) (obP hq) rfl 12 (by decide) q142 (fun _ h9 => h9) rfl dX7_giveUnits_48 ?_
  refine lv_iadd hx hb dX7_giveUnits_51 ?_
  obtain ⟨μ_8, hc_7, hf⟩ := bnO_some hf
  refine va_callv (va_runSN (As := [.ref (g.ad (q + 48)), .int (μ_3 rs 0), .int (r_4 + (μ_3 q 12))]) (rest := []) ⟨hx, hb, hml, hown, hts⟩ (c_X8_set l hg μ_3 H.size (q + 48) (μ_3 rs 0) (r_4 + (μ_3 q 12)) (show isP _ from hq).hld hc_7) ⟨va_cnB 3 hts (gd_code q480) rfl rfl rfl (hT.2 _ (nst_4)) (hts _ q37) hd_X8_set.2 ⟨Nat.le_of_ble_eq_true rfl, Nat.le_of_ble_eq_true rfl⟩, hts _ q479, trivial⟩ ⟨Pz.blind, fun U hU hW => ⟨rfl, Tb.warm hW hT, by rw [hU], by rw [hU]; exact hP⟩⟩ rfl rfl hl.1 rfl (lv_room (Nat.le_of_ble_eq_true rfl)) dX7_giveUnits_52 ⟨Nat.le_of_ble_eq_true rfl, Nat.le_of_ble_eq_true rfl⟩) hS (fun q _ h => Ag.sub rfl hS q h) (fun q h => Ag.sub rfl hS q h) (fun u9 t9 H locs ht9 hvm9 hw9 hB9 hz9 hk9 hS => ?_)
  have hP : Rg g μ_8 H := by rw [← ht9]; exact hB9
  refine lv_aload_n hx hb dX7_giveUnits_55 rfl (lv_at hl 1 rfl) ?_
  refine r_get hx hb hts i_X2 hown hT hP (inP hq) (fs := (fsP g q)) (obP hq) rfl 16 (by decide) q151 (fun _ h9 => h9) rfl dX7_giveUnits_56 ?_
  refine lv_aload_n hx hb dX7_giveUnits_59 rfl (lv_at hl 2 rfl) ?_
  refine r_get hx hb hts i_X3 hown hT hP (inR hrs) (fs := fsR) (obR hrs) rfl 0 (by decide) q948 (fun _ h9 => h9) rfl dX7_giveUnits_60 ?_
  refine lv_aload_n hx hb dX7_giveUnits_63 rfl (lv_at hl 0 rfl) ?_
  refine r_get hx hb hts i_X7 hown hT hP inW (fs := (fsW g)) (obW g) rfl 9 (by decide) q203 (fun _ h9 => h9) rfl dX7_giveUnits_64 ?_
  obtain ⟨μ_11, hc_10, hf⟩ := bnO_some hf
  refine va_callv (va_runSN (As := [.ref (g.ad (q + 72)), .int (μ_8 rs 0), .int (μ_8 0 9)]) (rest := []) ⟨hx, hb, hml, hown, hts⟩ (c_X8_set l hg μ_8 H.size (q + 72) (μ_8 rs 0) (μ_8 0 9) (show isP _ from hq).got hc_10) ⟨va_cnB 3 hts (gd_code q480) rfl rfl rfl (hT.2 _ (nst_4)) (hts _ q37) hd_X8_set.2 ⟨Nat.le_of_ble_eq_true rfl, Nat.le_of_ble_eq_true rfl⟩, hts _ q479, trivial⟩ ⟨Pz.blind, fun U hU hW => ⟨rfl, Tb.warm hW hT, by rw [hU], by rw [hU]; exact hP⟩⟩ rfl rfl hl.1 rfl (lv_room (Nat.le_of_ble_eq_true rfl)) dX7_giveUnits_67 ⟨Nat.le_of_ble_eq_true rfl, Nat.le_of_ble_eq_true rfl⟩) hS (fun q _ h => Ag.sub rfl hS q h) (fun q h => Ag.sub rfl hS q h) (fun u9 t9 H locs ht9 hvm9 hw9 hB9 hz9 hk9 hS => ?_)
  have hP : Rg g μ_11 H := by rw [← ht9]; exact hB9
  exact W.vret hx hb hr (fun t9 ht hW => ⟨⟨(), rfl, trivial, by show Rg g r t9.heap; rw [ht, ← Option.some.inj hf]; exact hP⟩, hS.F ht⟩) hS.2.2 dX7_giveUnits_70
/-- "Sandglass$World" "unitsToTake" "(LSandglass$Proc;LSandglass$Proc;LSandglass$Resource;)I" -/
def b_X7_unitsToTake_23 (g : Geo) (μ : Mem) (x2 : Nat) (x3 : Nat) : Option (Int32) := some 0
def f_X7_unitsToTake (g : Geo) (μ : Mem) (q : Nat) (o : Nat) (rs : Nat) : Option (Int32) := if (μ o 6) = 1 then (if (μ o 2) ≤ (μ q 2) then (b_X7_unitsToTake_23 g μ o rs) else (bnO (f_X8_at g μ (o + 48) (μ rs 0)) fun r_4 => some r_4)) else (b_X7_unitsToTake_23 g μ o rs)
theorem hd_X7_unitsToTake : yX7_unitsToTake.cls = RX7 ∧ yX7_unitsToTake.cls ≠ "java/lang/invoke/MethodHandle" ∧ yX7_unitsToTake.cls ≠ "java/lang/invoke/VarHandle" ∧ (parseMethodDescriptor yX7_unitsToTake.desc).map (fun d => d.parameters.length) = some 3 := by decide +kernel
set_option maxHeartbeats 4000000 in
set_option maxRecDepth 100000 in
theorem c_X7_unitsToTake (l : Launch) {g : Geo} (hg : Good g) (μ : Mem) (q : Nat) (o : Nat) (rs : Nat) (hq : isP q) (ho : isP o) (hrs : isR g rs) {r : Int32} (hf : f_X7_unitsToTake g μ q o rs = some r) : Met l yX7_unitsToTake (ws_ yX7_unitsToTake cX7_unitsToTake 5 (some .int)) (rm_ 1 21 0 0) (Pz g [.ref (g.ad 0), .ref (g.ad q), .ref (g.ad o), .ref (g.ad rs)] (Rg g μ)) (va_Qi (fun (v : Int32) (_ : Unit) => v = r) (fun _ _ => True) (fun _ => False)) 0 0 (fun _ => False) := by
  refine Met.ofW (cc := cX7_unitsToTake) (maxL := 5) (ret := (some .int)) (by decide) rfl ?_
  intro p e s m args below meth c s₁ B hml hv
  obtain ⟨rfl, hT, hP⟩ := hv
  have hx := B.exec
  have hb := B.bytes
  have hr := B.returns
  have hts : ∀ w ∈ lw_all, w.before _ s = true := fun w h => atoms_spec (ws := (ws_ yX7_unitsToTake cX7_unitsToTake 5 (some .int))) B.pre w (List.mem_cons_of_mem _ h)
  have hown : s.vm.findClass RX7 = some m.cls := findClass_of_methodNamed B.named
  have hlocks := B.notSynchronized
  have hS : va_S (fun _ => False) s.heap s.heap [] := va_S.rf
  have L23 : ∀ (μ : Mem) (x2 : Nat) (x3 : Nat) (H : Heap) (locs : List Loc) (ls : Array Slot), Rg g μ H → va_S (fun _ => False) s.heap H locs → lv_has ls 5 [(2, .ref (g.ad x2)), (3, .ref (g.ad x3))] → isP x2 → isR g x3 → b_X7_unitsToTake_23 g μ x2 x3 = some r → W p l e (headSpec (ws_ yX7_unitsToTake cX7_unitsToTake 5 (some .int)) (rm_ 1 21 0 0)).room s m ([.ref (g.ad 0), .ref (g.ad q), .ref (g.ad o), .ref (g.ad rs)] : List Value).toArray below meth c H locs 0 0 (MQ below (va_Qi (fun (v : Int32) (_ : Unit) => v = r) (fun _ _ => True) (fun _ => False)) ([.ref (g.ad 0), .ref (g.ad q), .ref (g.ad o), .ref (g.ad rs)] : List Value).toArray s 0 0 (fun _ => False)) (F0 m 23 ls []) := by
    intro μ x2 x3 H locs ls hP hS hl hx2 hx3 hf
    unfold b_X7_unitsToTake_23 at hf
    refine lv_iconst (v := 0) hx hb dX7_unitsToTake_23 (by decide) ?_
    refine lv_istore (lv' := [(4, .int 0), (2, .ref (g.ad x2)), (3, .ref (g.ad x3))]) hx hb dX7_unitsToTake_24 hl (by decide) rfl (fun ls hl => ?_)
    refine lv_iload hx hb dX7_unitsToTake_26 (lv_at hl 0 rfl) ?_
    refine lv_if_eq (tgt := 45) hx hb dX7_unitsToTake_28 (by decide) (fun c_6 => ?_) (fun c_6 => absurd (by decide) c_6)
    refine lv_iconst (v := 0) hx hb dX7_unitsToTake_45 (by decide) ?_
    exact W.iret (v := 0) hx hb hr (fun t9 ht hW => ⟨⟨0, (), rfl, Option.some.inj hf, trivial⟩, hS.F ht⟩) hS.2.2 dX7_unitsToTake_46
  have hl := lv_entry ([.ref (g.ad 0), .ref (g.ad q), .ref (g.ad o), .ref (g.ad rs)]) (n := 5) (Nat.le_of_ble_eq_true rfl)
  rw [lg_entry_eq]
  generalize (lg_sl ([.ref (g.ad 0), .ref (g.ad q), .ref (g.ad o), .ref (g.ad rs)]) ++ List.replicate (5 - (lg_sl ([.ref (g.ad 0), .ref (g.ad q), .ref (g.ad o), .ref (g.ad rs)])).length) Slot.unset).toArray = ls at hl ⊢
  have hl : lv_has ls 5 [(0, .ref (g.ad 0)), (1, .ref (g.ad q)), (2, .ref (g.ad o)), (3, .ref (g.ad rs))] := hl
  unfold f_X7_unitsToTake at hf
  refine lv_aload_n hx hb dX7_unitsToTake_0 rfl (lv_at hl 2 rfl) ?_
  refine r_get hx hb hts i_X2 hown hT hP (inP ho) (fs := (fsP g o)) (obP ho) rfl 6 (by decide) q128 (fun _ h9 => h9) rfl dX7_unitsToTake_1 ?_
  refine lv_iconst (v := 1) hx hb dX7_unitsToTake_4 (by decide) ?_
  refine lv_icmp_ne (tgt := 23) hx hb dX7_unitsToTake_5 (by decide) (fun c_1 => ?_) (fun c_1 => ?_)
  · have hf := (if_neg c_1).symm.trans hf
    exact L23 μ o rs _ _ _ hP hS (lv_sub hl [2, 3] rfl) ho hrs hf
  · have hf := (if_pos c_1).symm.trans hf
    refine lv_aload_n hx hb dX7_unitsToTake_8 rfl (lv_at hl 2 rfl) ?_
    refine r_get hx hb hts i_X2 hown hT hP (inP ho) (fs := (fsP g o)) (obP ho) rfl 2 (by decide) q116 (fun _ h9 => h9) rfl dX7_unitsToTake_9 ?_
    refine lv_aload_n hx hb dX7_unitsToTake_12 rfl (lv_at hl 1 rfl) ?_
    refine r_get hx hb hts i_X2 hown hT hP (inP hq) (fs := (fsP g q)) (obP hq) rfl 2 (by decide) q116 (fun _ h9 => h9) rfl dX7_unitsToTake_13 ?_
    refine lv_icmp_le (tgt := 23) hx hb dX7_unitsToTake_16 (by decide) (fun c_2 => ?_) (fun c_2 => ?_)
    · have hf := (if_pos c_2).symm.trans hf
      exact L23 μ o rs _ _ _ hP hS (lv_sub hl [2, 3] rfl) ho hrs hf
    · have hf := (if_neg c_2).symm.trans hf
      refine lv_iconst (v := 1) hx hb dX7_unitsToTake_19 (by decide) ?_
      refine lv_goto (tgt := 24) hx hb dX7_unitsToTake_20 (by decide) ?_
      refine lv_istore (lv' := [(4, .int 1), (0, .ref (g.ad 0)), (1, .ref (g.ad q)), (2, .ref (g.ad o)), (3, .ref (g.ad rs))]) hx hb dX7_unitsToTake_24 hl (by decide) rfl (fun ls hl => ?_)
      refine lv_iload hx hb dX7_unitsToTake_26 (lv_at hl 0 rfl) ?_
      refine lv_if_eq (tgt := 45) hx hb dX7_unitsToTake_28 (by decide) (fun c_3 => absurd c_3 (by decide)) (fun c_3 => ?_)
      refine lv_aload_n hx hb dX7_unitsToTake_31 rfl (lv_at hl 3 rfl) ?_
      refine r_get hx hb hts i_X2 hown hT hP (inP ho) (fs := (fsP g o)) (obP ho) rfl 15 (by decide) q149 (fun _ h9 => h9) rfl dX7_unitsToTake_32 ?_
      refine lv_aload_n hx hb dX7_unitsToTake_35 rfl (lv_at hl 4 rfl) ?_
      refine r_get hx hb hts i_X3 hown hT hP (inR hrs) (fs := fsR) (obR hrs) rfl 0 (by decide) q948 (fun _ h9 => h9) rfl dX7_unitsToTake_36 ?_
      obtain ⟨r_4, hc_5, hf⟩ := bnO_some hf
      refine va_calli (va_runSN (As := [.ref (g.ad (o + 48)), .int (μ rs 0)]) (rest := []) ⟨hx, hb, hml, hown, hts⟩ (c_X8_at l hg μ (o + 48) (μ rs 0) (show isP _ from ho).hld hc_5) ⟨va_cnB 2 hts (gd_code q464) rfl rfl rfl (hT.2 _ (nst_3)) (hts _ q37) hd_X8_at.2 ⟨Nat.le_of_ble_eq_true rfl, Nat.le_of_ble_eq_true rfl⟩, hts _ q463, trivial⟩ ⟨Pz.blind, fun U hU hW => ⟨rfl, Tb.warm hW hT, by rw [hU]; exact hP⟩⟩ rfl rfl hl.1 rfl (lv_room (Nat.le_of_ble_eq_true rfl)) dX7_unitsToTake_39 ⟨Nat.le_of_ble_eq_true rfl, Nat.le_of_ble_eq_true rfl⟩) hS (fun q _ h => h.elim) (fun q h => h.elim) (fun v9 u9 t9 H locs ht9 hvm9 hw9 hB9 hz9 hk9 hS => ?_)
      have hP := Rg.keep hP (fun q h => hk9 q h id)
      rw [hw9]
      refine lv_goto (tgt := 46) hx hb dX7_unitsToTake_42 (by decide) ?_
      exact W.iret (v := r_4) hx hb hr (fun t9 ht hW => ⟨⟨r_4, (), rfl, Option.some.inj hf, trivial⟩, hS.F ht⟩) hS.2.2 dX7_unitsToTake_46
/-- "Sandglass$World" "unitsOfVictims" "(LSandglass$Proc;LSandglass$Resource;)I" -/
def b_X7_unitsOfVictims_16 (g : Geo) : Nat → Mem → Nat → Nat → Int32 → Int32 → Int32 → Option (Int32)
  | 0, _, _, _, _, _, _ => none
  | n + 1, μ, x1, x2, x3, x5, x6 => if x5 ≤ x6 then (some x3) else (grd (¬ (x6 < 0 ∨ 24 ≤ x6.toNatClampNeg)) (bnd (x6.toNatClampNeg + 1) fun k_4 => bnO (f_X7_unitsToTake g μ x1 k_4 x2) fun r_5 => b_X7_unitsOfVictims_16 g n μ x1 x2 (x3 + r_5) x5 (x6 + 1)))
def f_X7_unitsOfVictims (g : Geo) (μ : Mem) (q : Nat) (rs : Nat) : Option (Int32) := b_X7_unitsOfVictims_16 g fu μ q rs 0 24 0
theorem hd_X7_unitsOfVictims : yX7_unitsOfVictims.cls = RX7 ∧ yX7_unitsOfVictims.cls ≠ "java/lang/invoke/MethodHandle" ∧ yX7_unitsOfVictims.cls ≠ "java/lang/invoke/VarHandle" ∧ (parseMethodDescriptor yX7_unitsOfVictims.desc).map (fun d => d.parameters.length) = some 2 := by decide +kernel
set_option maxHeartbeats 4000000 in
set_option maxRecDepth 100000 in
theorem c_X7_unitsOfVictims (l : Launch) {g : Geo} (hg : Good g) (μ : Mem) (q : Nat) (rs : Nat) (hq : isP q) (hrs : isR g rs) {r : Int32} (hf : f_X7_unitsOfVictims g μ q rs = some r) : Met l yX7_unitsOfVictims (ws_ yX7_unitsOfVictims cX7_unitsOfVictims 8 (some .int)) (rm_ 2 45 0 0) (Pz g [.ref (g.ad 0), .ref (g.ad q), .ref (g.ad rs)] (Rg g μ)) (va_Qi (fun (v : Int32) (_ : Unit) => v = r) (fun _ _ => True) (fun _ => False)) 0 0 (fun _ => False) := by
  refine Met.ofW (cc := cX7_unitsOfVictims) (maxL := 8) (ret := (some .int)) (by decide) rfl ?_
  intro p e s m args below meth c s₁ B hml hv
  obtain ⟨rfl, hT, hP⟩ := hv
  have hx := B.exec
  have hb := B.bytes
  have hr := B.returns
  have hts : ∀ w ∈ lw_all, w.before _ s = true := fun w h => atoms_spec (ws := (ws_ yX7_unitsOfVictims cX7_unitsOfVictims 8 (some .int))) B.pre w (List.mem_cons_of_mem _ h)
  have hown : s.vm.findClass RX7 = some m.cls := findClass_of_methodNamed B.named
  have hlocks := B.notSynchronized
  have hS : va_S (fun _ => False) s.heap s.heap [] := va_S.rf
  have L16 : ∀ (n : Nat) (μ : Mem) (x1 : Nat) (x2 : Nat) (x3 : Int32) (x5 : Int32) (x6 : Int32) (H : Heap) (locs : List Loc) (ls : Array Slot), Rg g μ H → va_S (fun _ => False) s.heap H locs → lv_has ls 8 [(0, .ref (g.ad 0)), (1, .ref (g.ad x1)), (2, .ref (g.ad x2)), (3, .int x3), (4, .ref (g.ad 97)), (5, .int x5), (6, .int x6)] → isP x1 → isR g x2 → b_X7_unitsOfVictims_16 g n μ x1 x2 x3 x5 x6 = some r → W p l e (headSpec (ws_ yX7_unitsOfVictims cX7_unitsOfVictims 8 (some .int)) (rm_ 2 45 0 0)).room s m ([.ref (g.ad 0), .ref (g.ad q), .ref (g.ad rs)] : List Value).toArray below meth c H locs 0 0 (MQ below (va_Qi (fun (v : Int32) (_ : Unit) => v = r) (fun _ _ => True) (fun _ => False)) ([.ref (g.ad 0), .ref (g.ad q), .ref (g.ad rs)] : List Value).toArray s 0 0 (fun _ => False)) (F0 m 16 ls []) := by
    intro n
    induction n with
    | zero => intro μ x1 x2 x3 x5 x6 H locs ls hP hS hl hx1 hx2 hf; cases hf
    | succ n ih =>
      intro μ x1 x2 x3 x5 x6 H locs ls hP hS hl hx1 hx2 hf
      rw [b_X7_unitsOfVictims_16] at hf
      refine lv_iload hx hb dX7_unitsOfVictims_16 (lv_at hl 6 rfl) ?_
      refine lv_iload hx hb dX7_unitsOfVictims_18 (lv_at hl 5 rfl) ?_
      refine lv_icmp_ge (tgt := 47) hx hb dX7_unitsOfVictims_20 (by decide) (fun c_1 => ?_) (fun c_1 => ?_)
      · have hf := (if_pos c_1).symm.trans hf
        refine lv_iload_n hx hb dX7_unitsOfVictims_47 rfl (lv_at hl 3 rfl) ?_
        exact W.iret (v := x3) hx hb hr (fun t9 ht hW => ⟨⟨x3, (), rfl, Option.some.inj hf, trivial⟩, hS.F ht⟩) hS.2.2 dX7_unitsOfVictims_48
      · have hf := (if_neg c_1).symm.trans hf
        refine lv_aload hx hb dX7_unitsOfVictims_23 (lv_at hl 4 rfl) ?_
        refine lv_iload hx hb dX7_unitsOfVictims_25 (lv_at hl 6 rfl) ?_
        obtain ⟨hi_2, hf⟩ := grd_some hf
        refine r_aaldP hx hb hT hP hi_2 dX7_unitsOfVictims_27 (fun hp_3 => ?_)
        obtain ⟨k_4, ek_4⟩ : ∃ z, x6.toNatClampNeg + 1 = z := ⟨_, rfl⟩
        rw [ek_4] at hp_3 ⊢
        have hf := bnd_eq hf _ ek_4
        refine lv_astore (lv' := [(7, .ref (g.ad k_4)), (0, .ref (g.ad 0)), (1, .ref (g.ad x1)), (2, .ref (g.ad x2)), (3, .int x3), (4, .ref (g.ad 97)), (5, .int x5), (6, .int x6)]) hx hb dX7_unitsOfVictims_28 hl (by decide) rfl (fun ls hl => ?_)
        refine lv_iload_n hx hb dX7_unitsOfVictims_30 rfl (lv_at hl 4 rfl) ?_
        refine lv_aload_n hx hb dX7_unitsOfVictims_31 rfl (lv_at hl 1 rfl) ?_
        refine lv_aload_n hx hb dX7_unitsOfVictims_32 rfl (lv_at hl 2 rfl) ?_
        refine lv_aload hx hb dX7_unitsOfVictims_33 (lv_at hl 0 rfl) ?_
        refine lv_aload_n hx hb dX7_unitsOfVictims_35 rfl (lv_at hl 3 rfl) ?_
        obtain ⟨r_5, hc_6, hf⟩ := bnO_some hf
        refine va_calli (va_runV (As := [.ref (g.ad x1), .ref (g.ad k_4), .ref (g.ad x2)]) (rest := [.int x3]) ⟨hx, hb, hml, hown, hts⟩ (c_X7_unitsToTake l hg μ x1 k_4 x2 hx1 hp_3 hx2 hc_6) (cwV 3 hts (gd_V q458 q460 q9 q41 q461) rfl rfl rfl hd_X7_unitsToTake ⟨Nat.le_of_ble_eq_true rfl, Nat.le_of_ble_eq_true rfl⟩) ⟨Pz.blind, r_recv hT hP inW (fs := (fsW g)) (obW g) rfl, fun U hU hW => ⟨rfl, Tb.warm hW hT, by rw [hU]; exact hP⟩⟩ rfl rfl hl.1 rfl (lv_room (Nat.le_of_ble_eq_true rfl)) dX7_unitsOfVictims_36 ⟨Nat.le_of_ble_eq_true rfl, Nat.le_of_ble_eq_true rfl⟩) hS (fun q _ h => h.elim) (fun q h => h.elim) (fun v9 u9 t9 H locs ht9 hvm9 hw9 hB9 hz9 hk9 hS => ?_)
        have hP := Rg.keep hP (fun q h => hk9 q h id)
        rw [hw9]
        refine lv_iadd hx hb dX7_unitsOfVictims_39 ?_
        refine lv_istore_n (lv' := [(3, .int (x3 + r_5)), (7, .ref (g.ad k_4)), (0, .ref (g.ad 0)), (1, .ref (g.ad x1)), (2, .ref (g.ad x2)), (4, .ref (g.ad 97)), (5, .int x5), (6, .int x6)]) hx hb dX7_unitsOfVictims_40 rfl hl (by decide) rfl (fun ls hl => ?_)
        refine lv_iinc (v := x6 + 1) (lv' := [(6, .int (x6 + 1)), (3, .int (x3 + r_5)), (7, .ref (g.ad k_4)), (0, .ref (g.ad 0)), (1, .ref (g.ad x1)), (2, .ref (g.ad x2)), (4, .ref (g.ad 97)), (5, .int x5)]) hx hb dX7_unitsOfVictims_41 hl (k := 7) rfl rfl (by decide) rfl (fun ls hl => ?_)
        refine lv_goto (tgt := 16) hx hb dX7_unitsOfVictims_44 (by decide) ?_
        exact ih μ x1 x2 (x3 + r_5) x5 (x6 + 1) _ _ _ hP hS (lv_sub hl [3, 4, 5, 1, 6, 7, 0] rfl) hx1 hx2 hf
  have hl := lv_entry ([.ref (g.ad 0), .ref (g.ad q), .ref (g.ad rs)]) (n := 8) (Nat.le_of_ble_eq_true rfl)
  rw [lg_entry_eq]
  generalize (lg_sl ([.ref (g.ad 0), .ref (g.ad q), .ref (g.ad rs)]) ++ List.replicate (8 - (lg_sl ([.ref (g.ad 0), .ref (g.ad q), .ref (g.ad rs)])).length) Slot.unset).toArray = ls at hl ⊢
  have hl : lv_has ls 8 [(0, .ref (g.ad 0)), (1, .ref (g.ad q)), (2, .ref (g.ad rs))] := hl
  unfold f_X7_unitsOfVictims at hf
  refine lv_iconst (v := 0) hx hb dX7_unitsOfVictims_0 (by decide) ?_
  refine lv_istore_n (lv' := [(3, .int 0), (0, .ref (g.ad 0)), (1, .ref (g.ad q)), (2, .ref (g.ad rs))]) hx hb dX7_unitsOfVictims_1 rfl hl (by decide) rfl (fun ls hl => ?_)
  refine lv_aload_n hx hb dX7_unitsOfVictims_2 rfl (lv_at hl 1 rfl) ?_
  refine r_get hx hb hts i_X7 hown hT hP inW (fs := (fsW g)) (obW g) rfl 4 (by decide) q194 (fun _ h9 => h9) rfl dX7_unitsOfVictims_3 ?_
  refine lv_astore (lv' := [(4, .ref (g.ad 97)), (3, .int 0), (0, .ref (g.ad 0)), (1, .ref (g.ad q)), (2, .ref (g.ad rs))]) hx hb dX7_unitsOfVictims_6 hl (by decide) rfl (fun ls hl => ?_)
  refine lv_aload hx hb dX7_unitsOfVictims_8 (lv_at hl 0 rfl) ?_
  refine r_alenP hx hb hT hP dX7_unitsOfVictims_10 ?_
  refine lv_istore (lv' := [(5, .int 24), (4, .ref (g.ad 97)), (3, .int 0), (0, .ref (g.ad 0)), (1, .ref (g.ad q)), (2, .ref (g.ad rs))]) hx hb dX7_unitsOfVictims_11 hl (by decide) rfl (fun ls hl => ?_)
  refine lv_iconst (v := 0) hx hb dX7_unitsOfVictims_13 (by decide) ?_
  refine lv_istore (lv' := [(6, .int 0), (5, .int 24), (4, .ref (g.ad 97)), (3, .int 0), (0, .ref (g.ad 0)), (1, .ref (g.ad q)), (2, .ref (g.ad rs))]) hx hb dX7_unitsOfVictims_14 hl (by decide) rfl (fun ls hl => ?_)
  exact L16 fu μ q rs 0 24 0 _ _ _ hP hS (lv_sub hl [4, 5, 6, 3, 2, 1, 0] rfl) hq hrs hf
/-- "Sandglass$World" "nextVictim" "(LSandglass$Proc;LSandglass$Resource;)LSandglass$Proc;" -/
def b_X7_nextVictim_16 (g : Geo) : Nat → Mem → Nat → Nat → Option Nat → Int32 → Int32 → Option ((Option Nat))
  | 0, _, _, _, _, _, _ => none
  | n + 1, μ, x1, x2, x3, x5, x6 => if x5 ≤ x6 then (csQ x3 (some (none)) (fun o_2 => grd (1 ≤ o_2 ∧ o_2 < 25) (some (some o_2)))) else (grd (¬ (x6 < 0 ∨ 24 ≤ x6.toNatClampNeg)) (bnd (x6.toNatClampNeg + 1) fun k_5 => bnO (f_X7_unitsToTake g μ x1 k_5 x2) fun r_6 => if r_6 ≤ 0 then (b_X7_nextVictim_16 g n μ x1 x2 x3 x5 (x6 + 1)) else (csQ x3 (b_X7_nextVictim_16 g n μ x1 x2 (some k_5) x5 (x6 + 1)) (fun o_9 => grd (1 ≤ o_9 ∧ o_9 < 25) (bnO (f_X2_yieldsBefore g μ k_5 o_9 (μ x2 0)) fun r_10 => if r_10 = 0 then (b_X7_nextVictim_16 g n μ x1 x2 (some o_9) x5 (x6 + 1)) else (b_X7_nextVictim_16 g n μ x1 x2 (some k_5) x5 (x6 + 1)))))))
def f_X7_nextVictim (g : Geo) (μ : Mem) (q : Nat) (rs : Nat) : Option ((Option Nat)) := b_X7_nextVictim_16 g fu μ q rs none 24 0
theorem hd_X7_nextVictim : yX7_nextVictim.cls = RX7 ∧ yX7_nextVictim.cls ≠ "java/lang/invoke/MethodHandle" ∧ yX7_nextVictim.cls ≠ "java/lang/invoke/VarHandle" ∧ (parseMethodDescriptor yX7_nextVictim.desc).map (fun d => d.parameters.length) = some 2 := by decide +kernel
set_option maxHeartbeats 4000000 in
set_option maxRecDepth 100000 in
theorem c_X7_nextVictim (l : Launch) {g : Geo} (hg : Good g) (μ : Mem) (q : Nat) (rs : Nat) (hq : isP q) (hrs : isR g rs) {r : (Option Nat)} (hf : f_X7_nextVictim g μ q rs = some r) : Met l yX7_nextVictim (ws_ yX7_nextVictim cX7_nextVictim 8 (some (.object "Sandglass$Proc"))) (rm_ 2 45 0 0) (Pz g [.ref (g.ad 0), .ref (g.ad q), .ref (g.ad rs)] (Rg g μ)) (va_Qq (fun (v : Option Nat) (_ : Unit) => v = r.map g.ad) (fun _ _ => True) (fun _ => False)) 0 0 (fun _ => False) := by
  refine Met.ofW (cc := cX7_nextVictim) (maxL := 8) (ret := (some (.object "Sandglass$Proc"))) (by decide) rfl ?_
  intro p e s m args below meth c s₁ B hml hv
  obtain ⟨rfl, hT, hP⟩ := hv
  have hx := B.exec
  have hb := B.bytes
  have hr := B.returns
  have hts : ∀ w ∈ lw_all, w.before _ s = true := fun w h => atoms_spec (ws := (ws_ yX7_nextVictim cX7_nextVictim 8 (some (.object "Sandglass$Proc")))) B.pre w (List.mem_cons_of_mem _ h)
  have hown : s.vm.findClass RX7 = some m.cls := findClass_of_methodNamed B.named
  have hlocks := B.notSynchronized
  have hS : va_S (fun _ => False) s.heap s.heap [] := va_S.rf
  have L16 : ∀ (n : Nat) (μ : Mem) (x1 : Nat) (x2 : Nat) (x3 : Option Nat) (x5 : Int32) (x6 : Int32) (H : Heap) (locs : List Loc) (ls : Array Slot), Rg g μ H → va_S (fun _ => False) s.heap H locs → lv_has ls 8 [(0, .ref (g.ad 0)), (1, .ref (g.ad x1)), (2, .ref (g.ad x2)), (3, va_rf (x3.map g.ad)), (4, .ref (g.ad 97)), (5, .int x5), (6, .int x6)] → isP x1 → isR g x2 → b_X7_nextVictim_16 g n μ x1 x2 x3 x5 x6 = some r → W p l e (headSpec (ws_ yX7_nextVictim cX7_nextVictim 8 (some (.object "Sandglass$Proc"))) (rm_ 2 45 0 0)).room s m ([.ref (g.ad 0), .ref (g.ad q), .ref (g.ad rs)] : List Value).toArray below meth c H locs 0 0 (MQ below (va_Qq (fun (v : Option Nat) (_ : Unit) => v = r.map g.ad) (fun _ _ => True) (fun _ => False)) ([.ref (g.ad 0), .ref (g.ad q), .ref (g.ad rs)] : List Value).toArray s 0 0 (fun _ => False)) (F0 m 16 ls []) := by
    intro n
    induction n with
    | zero => intro μ x1 x2 x3 x5 x6 H locs ls hP hS hl hx1 hx2 hf; cases hf
    | succ n ih =>
      intro μ x1 x2 x3 x5 x6 H locs ls hP hS hl hx1 hx2 hf
      rw [b_X7_nextVictim_16] at hf
      refine lv_iload hx hb dX7_nextVictim_16 (lv_at hl 6 rfl) ?_
      refine lv_iload hx hb dX7_nextVictim_18 (lv_at hl 5 rfl) ?_
      refine lv_icmp_ge (tgt := 67) hx hb dX7_nextVictim_20 (by decide) (fun c_1 => ?_) (fun c_1 => ?_)
      · have hf := (if_pos c_1).symm.trans hf
        cases x3 with
        | none =>
          have hl : lv_has ls 8 [(0, .ref (g.ad 0)), (1, .ref (g.ad x1)), (2, .ref (g.ad x2)), (3, .null), (4, .ref (g.ad 97)), (5, .int x5), (6, .int x6)] := hl
          dsimp only [csQ] at hf
          refine lv_aload_nN hx hb dX7_nextVictim_67 rfl (lv_at hl 3 rfl) ?_
          exact W.aret (v := .null) (rt := .object "Sandglass$Proc") hx hb hr (Or.inl ⟨_, rfl⟩) (Or.inl rfl) (fun t9 ht hW => ⟨⟨none, (), rfl, by rw [← Option.some.inj hf]; rfl, trivial⟩, hS.F ht⟩) hS.2.2 dX7_nextVictim_68
        | some o_2 =>
          have hl : lv_has ls 8 [(0, .ref (g.ad 0)), (1, .ref (g.ad x1)), (2, .ref (g.ad x2)), (3, .ref (g.ad o_2)), (4, .ref (g.ad 97)), (5, .int x5), (6, .int x6)] := hl
          dsimp only [csQ] at hf
          obtain ⟨ho_2, hf⟩ := grd_some hf
          refine lv_aload_n hx hb dX7_nextVictim_67 rfl (lv_at hl 3 rfl) ?_
          exact W.aret (v := .ref (g.ad o_2)) (rt := .object "Sandglass$Proc") hx hb hr (Or.inl ⟨_, rfl⟩) (Or.inr ⟨_, rfl⟩) (fun t9 ht hW => ⟨⟨(some (g.ad o_2)), (), rfl, by rw [← Option.some.inj hf]; rfl, trivial⟩, hS.F ht⟩) hS.2.2 dX7_nextVictim_68
      · have hf := (if_neg c_1).symm.trans hf
        refine lv_aload hx hb dX7_nextVictim_23 (lv_at hl 4 rfl) ?_
        refine lv_iload hx hb dX7_nextVictim_25 (lv_at hl 6 rfl) ?_
        obtain ⟨hi_3, hf⟩ := grd_some hf
        refine r_aaldP hx hb hT hP hi_3 dX7_nextVictim_27 (fun hp_4 => ?_)
        obtain ⟨k_5, ek_5⟩ : ∃ z, x6.toNatClampNeg + 1 = z := ⟨_, rfl⟩
        rw [ek_5] at hp_4 ⊢
        have hf := bnd_eq hf _ ek_5
        refine lv_astore (lv' := [(7, .ref (g.ad k_5)), (0, .ref (g.ad 0)), (1, .ref (g.ad x1)), (2, .ref (g.ad x2)), (3, va_rf (x3.map g.ad)), (4, .ref (g.ad 97)), (5, .int x5), (6, .int x6)]) hx hb dX7_nextVictim_28 hl (by decide) rfl (fun ls hl => ?_)
        refine lv_aload_n hx hb dX7_nextVictim_30 rfl (lv_at hl 1 rfl) ?_
        refine lv_aload_n hx hb dX7_nextVictim_31 rfl (lv_at hl 2 rfl) ?_
        refine lv_aload hx hb dX7_nextVictim_32 (lv_at hl 0 rfl) ?_
        refine lv_aload_n hx hb dX7_nextVictim_34 rfl (lv_at hl 3 rfl) ?_
        obtain ⟨r_6, hc_7, hf⟩ := bnO_some hf
        refine va_calli (va_runV (As := [.ref (g.ad x1), .ref (g.ad k_5), .ref (g.ad x2)]) (rest := []) ⟨hx, hb, hml, hown, hts⟩ (c_X7_unitsToTake l hg μ x1 k_5 x2 hx1 hp_4 hx2 hc_7) (cwV 3 hts (gd_V q458 q460 q9 q41 q461) rfl rfl rfl hd_X7_unitsToTake ⟨Nat.le_of_ble_eq_true rfl, Nat.le_of_ble_eq_true rfl⟩) ⟨Pz.blind, r_recv hT hP inW (fs := (fsW g)) (obW g) rfl, fun U hU hW => ⟨rfl, Tb.warm hW hT, by rw [hU]; exact hP⟩⟩ rfl rfl hl.1 rfl (lv_room (Nat.le_of_ble_eq_true rfl)) dX7_nextVictim_35 ⟨Nat.le_of_ble_eq_true rfl, Nat.le_of_ble_eq_true rfl⟩) hS (fun q _ h => h.elim) (fun q h => h.elim) (fun v9 u9 t9 H locs ht9 hvm9 hw9 hB9 hz9 hk9 hS => ?_)
        have hP := Rg.keep hP (fun q h => hk9 q h id)
        rw [hw9]
        refine lv_if_le (tgt := 61) hx hb dX7_nextVictim_38 (by decide) (fun c_8 => ?_) (fun c_8 => ?_)
        · have hf := (if_pos c_8).symm.trans hf
          refine lv_iinc (v := x6 + 1) (lv' := [(6, .int (x6 + 1)), (7, .ref (g.ad k_5)), (0, .ref (g.ad 0)), (1, .ref (g.ad x1)), (2, .ref (g.ad x2)), (3, va_rf (x3.map g.ad)), (4, .ref (g.ad 97)), (5, .int x5)]) hx hb dX7_nextVictim_61 hl (k := 7) rfl rfl (by decide) rfl (fun ls hl => ?_)
          refine lv_goto (tgt := 16) hx hb dX7_nextVictim_64 (by decide) ?_
          exact ih μ x1 x2 x3 x5 (x6 + 1) _ _ _ hP hS (lv_sub hl [2, 3, 4, 5, 6, 7, 0] rfl) hx1 hx2 hf
        · have hf := (if_neg c_8).symm.trans hf
          cases x3 with
          | none =>
            have hl : lv_has ls 8 [(7, .ref (g.ad k_5)), (0, .ref (g.ad 0)), (1, .ref (g.ad x1)), (2, .ref (g.ad x2)), (3, .null), (4, .ref (g.ad 97)), (5, .int x5), (6, .int x6)] := hl
            dsimp only [csQ] at hf
            refine lv_aload_nN hx hb dX7_nextVictim_41 rfl (lv_at hl 4 rfl) ?_
            refine lv_ifnullN (tgt := 58) hx hb dX7_nextVictim_42 (by decide) ?_
            refine lv_aload hx hb dX7_nextVictim_58 (lv_at hl 0 rfl) ?_
            refine lv_astore_n (lv' := [(3, .ref (g.ad k_5)), (7, .ref (g.ad k_5)), (0, .ref (g.ad 0)), (1, .ref (g.ad x1)), (2, .ref (g.ad x2)), (4, .ref (g.ad 97)), (5, .int x5), (6, .int x6)]) hx hb dX7_nextVictim_60 rfl hl (by decide) rfl (fun ls hl => ?_)
            refine lv_iinc (v := x6 + 1) (lv' := [(6, .int (x6 + 1)), (3, .ref (g.ad k_5)), (7, .ref (g.ad k_5)), (0, .ref (g.ad 0)), (1, .ref (g.ad x1)), (2, .ref (g.ad x2)), (4, .ref (g.ad 97)), (5, .int x5)]) hx hb dX7_nextVictim_61 hl (k := 7) rfl rfl (by decide) rfl (fun ls hl => ?_)
            refine lv_goto (tgt := 16) hx hb dX7_nextVictim_64 (by decide) ?_
            exact ih μ x1 x2 (some k_5) x5 (x6 + 1) _ _ _ hP hS (lv_sub hl [3, 4, 5, 1, 6, 7, 0] rfl) hx1 hx2 hf
          | some o_9 =>
            have hl : lv_has ls 8 [(7, .ref (g.ad k_5)), (0, .ref (g.ad 0)), (1, .ref (g.ad x1)), (2, .ref (g.ad x2)), (3, .ref (g.ad o_9)), (4, .ref (g.ad 97)), (5, .int x5), (6, .int x6)] := hl
            dsimp only [csQ] at hf
            obtain ⟨ho_9, hf⟩ := grd_some hf
            refine lv_aload_n hx hb dX7_nextVictim_41 rfl (lv_at hl 4 rfl) ?_
            refine lv_ifnull hx hb dX7_nextVictim_42 ?_
            refine lv_aload hx hb dX7_nextVictim_45 (lv_at hl 0 rfl) ?_
            refine lv_aload_n hx hb dX7_nextVictim_47 rfl (lv_at hl 4 rfl) ?_
            refine lv_aload_n hx hb dX7_nextVictim_48 rfl (lv_at hl 3 rfl) ?_
            refine r_get hx hb hts i_X3 hown hT hP (inR hx2) (fs := fsR) (obR hx2) rfl 0 (by decide) q948 (fun _ h9 => h9) rfl dX7_nextVictim_49 ?_
            obtain ⟨r_10, hc_11, hf⟩ := bnO_some hf
            refine va_calli (va_runV (As := [.ref (g.ad o_9), .int (μ x2 0)]) (rest := []) ⟨hx, hb, hml, hown, hts⟩ (c_X2_yieldsBefore l hg μ k_5 o_9 (μ x2 0) hp_4 ho_9 hc_11) (cwV 2 hts (gd_V q469 q470 q471 q42 q472) rfl rfl rfl hd_X2_yieldsBefore ⟨Nat.le_of_ble_eq_true rfl, Nat.le_of_ble_eq_true rfl⟩) ⟨Pz.blind, r_recv hT hP (inP hp_4) (fs := (fsP g k_5)) (obP hp_4) rfl, fun U hU hW => ⟨rfl, Tb.warm hW hT, by rw [hU]; exact hP⟩⟩ rfl rfl hl.1 rfl (lv_room (Nat.le_of_ble_eq_true rfl)) dX7_nextVictim_52 ⟨Nat.le_of_ble_eq_true rfl, Nat.le_of_ble_eq_true rfl⟩) hS (fun q _ h => h.elim) (fun q h => h.elim) (fun v9 u9 t9 H locs ht9 hvm9 hw9 hB9 hz9 hk9 hS => ?_)
            have hP := Rg.keep hP (fun q h => hk9 q h id)
            rw [hw9]
            refine lv_if_eq (tgt := 61) hx hb dX7_nextVictim_55 (by decide) (fun c_12 => ?_) (fun c_12 => ?_)
            · have hf := (if_pos c_12).symm.trans hf
              refine lv_iinc (v := x6 + 1) (lv' := [(6, .int (x6 + 1)), (7, .ref (g.ad k_5)), (0, .ref (g.ad 0)), (1, .ref (g.ad x1)), (2, .ref (g.ad x2)), (3, .ref (g.ad o_9)), (4, .ref (g.ad 97)), (5, .int x5)]) hx hb dX7_nextVictim_61 hl (k := 7) rfl rfl (by decide) rfl (fun ls hl => ?_)
              refine lv_goto (tgt := 16) hx hb dX7_nextVictim_64 (by decide) ?_
              exact ih μ x1 x2 (some o_9) x5 (x6 + 1) _ _ _ hP hS (lv_sub hl [2, 3, 4, 5, 6, 7, 0] rfl) hx1 hx2 hf
            · have hf := (if_neg c_12).symm.trans hf
              refine lv_aload hx hb dX7_nextVictim_58 (lv_at hl 0 rfl) ?_
              refine lv_astore_n (lv' := [(3, .ref (g.ad k_5)), (7, .ref (g.ad k_5)), (0, .ref (g.ad 0)), (1, .ref (g.ad x1)), (2, .ref (g.ad x2)), (4, .ref (g.ad 97)), (5, .int x5), (6, .int x6)]) hx hb dX7_nextVictim_60 rfl hl (by decide) rfl (fun ls hl => ?_)
              refine lv_iinc (v := x6 + 1) (lv' := [(6, .int (x6 + 1)), (3, .ref (g.ad k_5)), (7, .ref (g.ad k_5)), (0, .ref (g.ad 0)), (1, .ref (g.ad x1)), (2, .ref (g.ad x2)), (4, .ref (g.ad 97)), (5, .int x5)]) hx hb dX7_nextVictim_61 hl (k := 7) rfl rfl (by decide) rfl (fun ls hl => ?_)
              refine lv_goto (tgt := 16) hx hb dX7_nextVictim_64 (by decide) ?_
              exact ih μ x1 x2 (some k_5) x5 (x6 + 1) _ _ _ hP hS (lv_sub hl [3, 4, 5, 1, 6, 7, 0] rfl) hx1 hx2 hf
  have hl := lv_entry ([.ref (g.ad 0), .ref (g.ad q), .ref (g.ad rs)]) (n := 8) (Nat.le_of_ble_eq_true rfl)
  rw [lg_entry_eq]
  generalize (lg_sl ([.ref (g.ad 0), .ref (g.ad q), .ref (g.ad rs)]) ++ List.replicate (8 - (lg_sl ([.ref (g.ad 0), .ref (g.ad q), .ref (g.ad rs)])).length) Slot.unset).toArray = ls at hl ⊢
  have hl : lv_has ls 8 [(0, .ref (g.ad 0)), (1, .ref (g.ad q)), (2, .ref (g.ad rs))] := hl
  unfold f_X7_nextVictim at hf
  refine lv_null hx hb dX7_nextVictim_0 ?_
  refine lv_astore_nN (lv' := [(3, .null), (0, .ref (g.ad 0)), (1, .ref (g.ad q)), (2, .ref (g.ad rs))]) hx hb dX7_nextVictim_1 rfl hl (by decide) rfl (fun ls hl => ?_)
  refine lv_aload_n hx hb dX7_nextVictim_2 rfl (lv_at hl 1 rfl) ?_
  refine r_get hx hb hts i_X7 hown hT hP inW (fs := (fsW g)) (obW g) rfl 4 (by decide) q194 (fun _ h9 => h9) rfl dX7_nextVictim_3 ?_
  refine lv_astore (lv' := [(4, .ref (g.ad 97)), (3, .null), (0, .ref (g.ad 0)), (1, .ref (g.ad q)), (2, .ref (g.ad rs))]) hx hb dX7_nextVictim_6 hl (by decide) rfl (fun ls hl => ?_)
  refine lv_aload hx hb dX7_nextVictim_8 (lv_at hl 0 rfl) ?_
  refine r_alenP hx hb hT hP dX7_nextVictim_10 ?_
  refine lv_istore (lv' := [(5, .int 24), (4, .ref (g.ad 97)), (3, .null), (0, .ref (g.ad 0)), (1, .ref (g.ad q)), (2, .ref (g.ad rs))]) hx hb dX7_nextVictim_11 hl (by decide) rfl (fun ls hl => ?_)
  refine lv_iconst (v := 0) hx hb dX7_nextVictim_13 (by decide) ?_
  refine lv_istore (lv' := [(6, .int 0), (5, .int 24), (4, .ref (g.ad 97)), (3, .null), (0, .ref (g.ad 0)), (1, .ref (g.ad q)), (2, .ref (g.ad rs))]) hx hb dX7_nextVictim_14 hl (by decide) rfl (fun ls hl => ?_)
  exact L16 fu μ q rs none 24 0 _ _ _ hP hS (lv_sub hl [4, 5, 6, 3, 2, 1, 0] rfl) hq hrs hf
end
