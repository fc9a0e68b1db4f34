section
-- ===== PART A: goes FIRST, ahead of the names: the tables' words, and 'selects' of the private methods out of them =====
/-- a private method of a class that the tables say can be made, by its rows of tables_1 -/
def lw_okq (q : MethodName × Nat) : Prop := (q.1.cls ≠ "java/lang/invoke/MethodHandle" ∧ q.1.cls ≠ "java/lang/invoke/VarHandle") ∧ Cond.instantiable q.1.cls q.2 ∈ tables_1 ∧ Cond.privateMethod q.1 ∈ tables_1 ∧ Cond.instanceMethod q.1 ∈ tables_1
theorem lw_p0 : lw_okq (⟨"CellYard", "layOneCell", "(IJ)I"⟩, 6) := ⟨⟨by decide +kernel, by decide +kernel⟩, List.mem_of_getElem? (i := 10) (by decide +kernel), List.mem_of_getElem? (i := 197) (by decide +kernel), List.mem_of_getElem? (i := 198) (by decide +kernel)⟩
theorem lw_p1 : lw_okq (⟨"CellYard", "topAt", "()I"⟩, 6) := ⟨⟨by decide +kernel, by decide +kernel⟩, List.mem_of_getElem? (i := 10) (by decide +kernel), List.mem_of_getElem? (i := 209) (by decide +kernel), List.mem_of_getElem? (i := 210) (by decide +kernel)⟩
theorem lw_p2 : lw_okq (⟨"CellYard", "makeRecord", "(I)I"⟩, 6) := ⟨⟨by decide +kernel, by decide +kernel⟩, List.mem_of_getElem? (i := 10) (by decide +kernel), List.mem_of_getElem? (i := 231) (by decide +kernel), List.mem_of_getElem? (i := 232) (by decide +kernel)⟩
theorem lw_p3 : lw_okq (⟨"CellYard", "handEndsWithFieldsOf", "(II)Z"⟩, 6) := ⟨⟨by decide +kernel, by decide +kernel⟩, List.mem_of_getElem? (i := 10) (by decide +kernel), List.mem_of_getElem? (i := 239) (by decide +kernel), List.mem_of_getElem? (i := 240) (by decide +kernel)⟩
theorem lw_p4 : lw_okq (⟨"CellYard", "makeChoice", "(II)I"⟩, 6) := ⟨⟨by decide +kernel, by decide +kernel⟩, List.mem_of_getElem? (i := 10) (by decide +kernel), List.mem_of_getElem? (i := 262) (by decide +kernel), List.mem_of_getElem? (i := 263) (by decide +kernel)⟩
theorem lw_p5 : lw_okq (⟨"CellYard", "replaceTopShape", "(I)V"⟩, 6) := ⟨⟨by decide +kernel, by decide +kernel⟩, List.mem_of_getElem? (i := 10) (by decide +kernel), List.mem_of_getElem? (i := 272) (by decide +kernel), List.mem_of_getElem? (i := 273) (by decide +kernel)⟩
theorem lw_p6 : lw_okq (⟨"CellYard", "makeBox", "(I)I"⟩, 6) := ⟨⟨by decide +kernel, by decide +kernel⟩, List.mem_of_getElem? (i := 10) (by decide +kernel), List.mem_of_getElem? (i := 276) (by decide +kernel), List.mem_of_getElem? (i := 277) (by decide +kernel)⟩
theorem lw_p7 : lw_okq (⟨"CellYard", "takeRecordApart", "(I)I"⟩, 6) := ⟨⟨by decide +kernel, by decide +kernel⟩, List.mem_of_getElem? (i := 10) (by decide +kernel), List.mem_of_getElem? (i := 339) (by decide +kernel), List.mem_of_getElem? (i := 340) (by decide +kernel)⟩
theorem lw_p8 : lw_okq (⟨"CellYard", "takeChoiceApart", "(I)I"⟩, 6) := ⟨⟨by decide +kernel, by decide +kernel⟩, List.mem_of_getElem? (i := 10) (by decide +kernel), List.mem_of_getElem? (i := 343) (by decide +kernel), List.mem_of_getElem? (i := 344) (by decide +kernel)⟩
theorem lw_p9 : lw_okq (⟨"CellYard$Dropping", "await", "(II)V"⟩, 7) := ⟨⟨by decide +kernel, by decide +kernel⟩, List.mem_of_getElem? (i := 91) (by decide +kernel), List.mem_of_getElem? (i := 355) (by decide +kernel), List.mem_of_getElem? (i := 356) (by decide +kernel)⟩
theorem lw_p10 : lw_okq (⟨"CellYard$Dropping", "dropOne", "(II)V"⟩, 7) := ⟨⟨by decide +kernel, by decide +kernel⟩, List.mem_of_getElem? (i := 91) (by decide +kernel), List.mem_of_getElem? (i := 360) (by decide +kernel), List.mem_of_getElem? (i := 361) (by decide +kernel)⟩
theorem lw_p11 : lw_okq (⟨"CellYard$Dropping", "tell", "(J)V"⟩, 7) := ⟨⟨by decide +kernel, by decide +kernel⟩, List.mem_of_getElem? (i := 91) (by decide +kernel), List.mem_of_getElem? (i := 366) (by decide +kernel), List.mem_of_getElem? (i := 367) (by decide +kernel)⟩
theorem lw_p12 : lw_okq (⟨"CellYard$Dropping", "awaitFields", "(II)V"⟩, 7) := ⟨⟨by decide +kernel, by decide +kernel⟩, List.mem_of_getElem? (i := 91) (by decide +kernel), List.mem_of_getElem? (i := 370) (by decide +kernel), List.mem_of_getElem? (i := 371) (by decide +kernel)⟩
theorem lw_p13 : lw_okq (⟨"CellYard$Dropping", "awaitBoxed", "(IJ)V"⟩, 7) := ⟨⟨by decide +kernel, by decide +kernel⟩, List.mem_of_getElem? (i := 91) (by decide +kernel), List.mem_of_getElem? (i := 376) (by decide +kernel), List.mem_of_getElem? (i := 377) (by decide +kernel)⟩
theorem lw_p14 : lw_okq (⟨"CellYard$Dropping", "awaitElements", "(IJ)V"⟩, 7) := ⟨⟨by decide +kernel, by decide +kernel⟩, List.mem_of_getElem? (i := 91) (by decide +kernel), List.mem_of_getElem? (i := 382) (by decide +kernel), List.mem_of_getElem? (i := 383) (by decide +kernel)⟩
theorem lw_p15 : lw_okq (⟨"CellYard", "seek", "(II)I"⟩, 6) := ⟨⟨by decide +kernel, by decide +kernel⟩, List.mem_of_getElem? (i := 10) (by decide +kernel), List.mem_of_getElem? (i := 433) (by decide +kernel), List.mem_of_getElem? (i := 434) (by decide +kernel)⟩
def lw_privs_1 : List (MethodName × Nat) := [(⟨"CellYard", "layOneCell", "(IJ)I"⟩, 6), (⟨"CellYard", "topAt", "()I"⟩, 6), (⟨"CellYard", "makeRecord", "(I)I"⟩, 6), (⟨"CellYard", "handEndsWithFieldsOf", "(II)Z"⟩, 6), (⟨"CellYard", "makeChoice", "(II)I"⟩, 6), (⟨"CellYard", "replaceTopShape", "(I)V"⟩, 6), (⟨"CellYard", "makeBox", "(I)I"⟩, 6), (⟨"CellYard", "takeRecordApart", "(I)I"⟩, 6), (⟨"CellYard", "takeChoiceApart", "(I)I"⟩, 6), (⟨"CellYard$Dropping", "await", "(II)V"⟩, 7), (⟨"CellYard$Dropping", "dropOne", "(II)V"⟩, 7), (⟨"CellYard$Dropping", "tell", "(J)V"⟩, 7), (⟨"CellYard$Dropping", "awaitFields", "(II)V"⟩, 7), (⟨"CellYard$Dropping", "awaitBoxed", "(IJ)V"⟩, 7), (⟨"CellYard$Dropping", "awaitElements", "(IJ)V"⟩, 7), (⟨"CellYard", "seek", "(II)I"⟩, 6)]
theorem lw_r1 : ∀ q ∈ lw_privs_1, lw_okq q := List.forall_mem_cons.mpr ⟨lw_p0, List.forall_mem_cons.mpr ⟨lw_p1, List.forall_mem_cons.mpr ⟨lw_p2, List.forall_mem_cons.mpr ⟨lw_p3, List.forall_mem_cons.mpr ⟨lw_p4, List.forall_mem_cons.mpr ⟨lw_p5, List.forall_mem_cons.mpr ⟨lw_p6, List.forall_mem_cons.mpr ⟨lw_p7, List.forall_mem_cons.mpr ⟨lw_p8, List.forall_mem_cons.mpr ⟨lw_p9, List.forall_mem_cons.mpr ⟨lw_p10, List.forall_mem_cons.mpr ⟨lw_p11, List.forall_mem_cons.mpr ⟨lw_p12, List.forall_mem_cons.mpr ⟨lw_p13, List.forall_mem_cons.mpr ⟨lw_p14, List.forall_mem_cons.mpr ⟨lw_p15, fun _ h => absurd h List.not_mem_nil⟩⟩⟩⟩⟩⟩⟩⟩⟩⟩⟩⟩⟩⟩⟩⟩
theorem lw_p16 : lw_okq (⟨"CellYard", "step", "(II)I"⟩, 6) := ⟨⟨by decide +kernel, by decide +kernel⟩, List.mem_of_getElem? (i := 10) (by decide +kernel), List.mem_of_getElem? (i := 438) (by decide +kernel), List.mem_of_getElem? (i := 439) (by decide +kernel)⟩
theorem lw_p17 : lw_okq (⟨"CellYard", "stepToField", "(II)I"⟩, 6) := ⟨⟨by decide +kernel, by decide +kernel⟩, List.mem_of_getElem? (i := 10) (by decide +kernel), List.mem_of_getElem? (i := 442) (by decide +kernel), List.mem_of_getElem? (i := 443) (by decide +kernel)⟩
theorem lw_p18 : lw_okq (⟨"CellYard", "stepToPart", "(I)I"⟩, 6) := ⟨⟨by decide +kernel, by decide +kernel⟩, List.mem_of_getElem? (i := 10) (by decide +kernel), List.mem_of_getElem? (i := 451) (by decide +kernel), List.mem_of_getElem? (i := 452) (by decide +kernel)⟩
theorem lw_p19 : lw_okq (⟨"CellYard", "stepIntoBox", "(I)I"⟩, 6) := ⟨⟨by decide +kernel, by decide +kernel⟩, List.mem_of_getElem? (i := 10) (by decide +kernel), List.mem_of_getElem? (i := 455) (by decide +kernel), List.mem_of_getElem? (i := 456) (by decide +kernel)⟩
theorem lw_p20 : lw_okq (⟨"CellYard", "stepToElement", "(II)I"⟩, 6) := ⟨⟨by decide +kernel, by decide +kernel⟩, List.mem_of_getElem? (i := 10) (by decide +kernel), List.mem_of_getElem? (i := 459) (by decide +kernel), List.mem_of_getElem? (i := 460) (by decide +kernel)⟩
theorem lw_p21 : lw_okq (⟨"CellYard", "endLastFrame", "(I)V"⟩, 6) := ⟨⟨by decide +kernel, by decide +kernel⟩, List.mem_of_getElem? (i := 10) (by decide +kernel), List.mem_of_getElem? (i := 501) (by decide +kernel), List.mem_of_getElem? (i := 502) (by decide +kernel)⟩
theorem lw_p22 : lw_okq (⟨"CellYardModel", "isShape", "(I)Z"⟩, 23) := ⟨⟨by decide +kernel, by decide +kernel⟩, List.mem_of_getElem? (i := 553) (by decide +kernel), List.mem_of_getElem? (i := 633) (by decide +kernel), List.mem_of_getElem? (i := 634) (by decide +kernel)⟩
theorem lw_p23 : lw_okq (⟨"CellYardModel", "sizeOf", "(I)I"⟩, 23) := ⟨⟨by decide +kernel, by decide +kernel⟩, List.mem_of_getElem? (i := 553) (by decide +kernel), List.mem_of_getElem? (i := 640) (by decide +kernel), List.mem_of_getElem? (i := 641) (by decide +kernel)⟩
theorem lw_p24 : lw_okq (⟨"CellYardModel", "come", "(IIIII)I"⟩, 23) := ⟨⟨by decide +kernel, by decide +kernel⟩, List.mem_of_getElem? (i := 553) (by decide +kernel), List.mem_of_getElem? (i := 644) (by decide +kernel), List.mem_of_getElem? (i := 645) (by decide +kernel)⟩
theorem lw_p25 : lw_okq (⟨"CellYardModel", "node", "(IJ)I"⟩, 23) := ⟨⟨by decide +kernel, by decide +kernel⟩, List.mem_of_getElem? (i := 553) (by decide +kernel), List.mem_of_getElem? (i := 673) (by decide +kernel), List.mem_of_getElem? (i := 674) (by decide +kernel)⟩
theorem lw_p26 : lw_okq (⟨"CellYardModel", "grow", "()V"⟩, 23) := ⟨⟨by decide +kernel, by decide +kernel⟩, List.mem_of_getElem? (i := 553) (by decide +kernel), List.mem_of_getElem? (i := 677) (by decide +kernel), List.mem_of_getElem? (i := 678) (by decide +kernel)⟩
theorem lw_p27 : lw_okq (⟨"CellYardModel", "comes", "(I)I"⟩, 23) := ⟨⟨by decide +kernel, by decide +kernel⟩, List.mem_of_getElem? (i := 553) (by decide +kernel), List.mem_of_getElem? (i := 681) (by decide +kernel), List.mem_of_getElem? (i := 682) (by decide +kernel)⟩
theorem lw_p28 : lw_okq (⟨"CellYardModel", "parts", "(I)I"⟩, 23) := ⟨⟨by decide +kernel, by decide +kernel⟩, List.mem_of_getElem? (i := 553) (by decide +kernel), List.mem_of_getElem? (i := 689) (by decide +kernel), List.mem_of_getElem? (i := 690) (by decide +kernel)⟩
theorem lw_p29 : lw_okq (⟨"CellYardModel", "mine", "()I"⟩, 23) := ⟨⟨by decide +kernel, by decide +kernel⟩, List.mem_of_getElem? (i := 553) (by decide +kernel), List.mem_of_getElem? (i := 693) (by decide +kernel), List.mem_of_getElem? (i := 694) (by decide +kernel)⟩
theorem lw_p30 : lw_okq (⟨"CellYardModel", "top", "(I)I"⟩, 23) := ⟨⟨by decide +kernel, by decide +kernel⟩, List.mem_of_getElem? (i := 553) (by decide +kernel), List.mem_of_getElem? (i := 697) (by decide +kernel), List.mem_of_getElem? (i := 698) (by decide +kernel)⟩
theorem lw_p31 : lw_okq (⟨"CellYardModel", "wrap", "(IJI)I"⟩, 23) := ⟨⟨by decide +kernel, by decide +kernel⟩, List.mem_of_getElem? (i := 553) (by decide +kernel), List.mem_of_getElem? (i := 701) (by decide +kernel), List.mem_of_getElem? (i := 702) (by decide +kernel)⟩
def lw_privs_2 : List (MethodName × Nat) := [(⟨"CellYard", "step", "(II)I"⟩, 6), (⟨"CellYard", "stepToField", "(II)I"⟩, 6), (⟨"CellYard", "stepToPart", "(I)I"⟩, 6), (⟨"CellYard", "stepIntoBox", "(I)I"⟩, 6), (⟨"CellYard", "stepToElement", "(II)I"⟩, 6), (⟨"CellYard", "endLastFrame", "(I)V"⟩, 6), (⟨"CellYardModel", "isShape", "(I)Z"⟩, 23), (⟨"CellYardModel", "sizeOf", "(I)I"⟩, 23), (⟨"CellYardModel", "come", "(IIIII)I"⟩, 23), (⟨"CellYardModel", "node", "(IJ)I"⟩, 23), (⟨"CellYardModel", "grow", "()V"⟩, 23), (⟨"CellYardModel", "comes", "(I)I"⟩, 23), (⟨"CellYardModel", "parts", "(I)I"⟩, 23), (⟨"CellYardModel", "mine", "()I"⟩, 23), (⟨"CellYardModel", "top", "(I)I"⟩, 23), (⟨"CellYardModel", "wrap", "(IJI)I"⟩, 23)]
theorem lw_r2 : ∀ q ∈ lw_privs_2, lw_okq q := List.forall_mem_cons.mpr ⟨lw_p16, List.forall_mem_cons.mpr ⟨lw_p17, List.forall_mem_cons.mpr ⟨lw_p18, List.forall_mem_cons.mpr ⟨lw_p19, List.forall_mem_cons.mpr ⟨lw_p20, List.forall_mem_cons.mpr ⟨lw_p21, List.forall_mem_cons.mpr ⟨lw_p22, List.forall_mem_cons.mpr ⟨lw_p23, List.forall_mem_cons.mpr ⟨lw_p24, List.forall_mem_cons.mpr ⟨lw_p25, List.forall_mem_cons.mpr ⟨lw_p26, List.forall_mem_cons.mpr ⟨lw_p27, List.forall_mem_cons.mpr ⟨lw_p28, List.forall_mem_cons.mpr ⟨lw_p29, List.forall_mem_cons.mpr ⟨lw_p30, List.forall_mem_cons.mpr ⟨lw_p31, fun _ h => absurd h List.not_mem_nil⟩⟩⟩⟩⟩⟩⟩⟩⟩⟩⟩⟩⟩⟩⟩⟩
theorem lw_p32 : lw_okq (⟨"CellYardModel", "kindOf", "(I)I"⟩, 23) := ⟨⟨by decide +kernel, by decide +kernel⟩, List.mem_of_getElem? (i := 553) (by decide +kernel), List.mem_of_getElem? (i := 713) (by decide +kernel), List.mem_of_getElem? (i := 714) (by decide +kernel)⟩
theorem lw_p33 : lw_okq (⟨"CellYardModel", "free", "(I)V"⟩, 23) := ⟨⟨by decide +kernel, by decide +kernel⟩, List.mem_of_getElem? (i := 553) (by decide +kernel), List.mem_of_getElem? (i := 717) (by decide +kernel), List.mem_of_getElem? (i := 718) (by decide +kernel)⟩
theorem lw_p34 : lw_okq (⟨"CellYardModel", "dropped", "(I)V"⟩, 23) := ⟨⟨by decide +kernel, by decide +kernel⟩, List.mem_of_getElem? (i := 553) (by decide +kernel), List.mem_of_getElem? (i := 729) (by decide +kernel), List.mem_of_getElem? (i := 730) (by decide +kernel)⟩
theorem lw_p35 : lw_okq (⟨"CellYardModel", "slot", "(I)I"⟩, 23) := ⟨⟨by decide +kernel, by decide +kernel⟩, List.mem_of_getElem? (i := 553) (by decide +kernel), List.mem_of_getElem? (i := 737) (by decide +kernel), List.mem_of_getElem? (i := 738) (by decide +kernel)⟩
theorem lw_p36 : lw_okq (⟨"CellYardModel", "find", "(II)I"⟩, 23) := ⟨⟨by decide +kernel, by decide +kernel⟩, List.mem_of_getElem? (i := 553) (by decide +kernel), List.mem_of_getElem? (i := 749) (by decide +kernel), List.mem_of_getElem? (i := 750) (by decide +kernel)⟩
theorem lw_p37 : lw_okq (⟨"CellYardModel", "put", "(I)V"⟩, 23) := ⟨⟨by decide +kernel, by decide +kernel⟩, List.mem_of_getElem? (i := 553) (by decide +kernel), List.mem_of_getElem? (i := 754) (by decide +kernel), List.mem_of_getElem? (i := 755) (by decide +kernel)⟩
theorem lw_p38 : lw_okq (⟨"CellYardModel", "empty", "()V"⟩, 23) := ⟨⟨by decide +kernel, by decide +kernel⟩, List.mem_of_getElem? (i := 553) (by decide +kernel), List.mem_of_getElem? (i := 779) (by decide +kernel), List.mem_of_getElem? (i := 780) (by decide +kernel)⟩
def lw_privs_3 : List (MethodName × Nat) := [(⟨"CellYardModel", "kindOf", "(I)I"⟩, 23), (⟨"CellYardModel", "free", "(I)V"⟩, 23), (⟨"CellYardModel", "dropped", "(I)V"⟩, 23), (⟨"CellYardModel", "slot", "(I)I"⟩, 23), (⟨"CellYardModel", "find", "(II)I"⟩, 23), (⟨"CellYardModel", "put", "(I)V"⟩, 23), (⟨"CellYardModel", "empty", "()V"⟩, 23)]
theorem lw_r3 : ∀ q ∈ lw_privs_3, lw_okq q := List.forall_mem_cons.mpr ⟨lw_p32, List.forall_mem_cons.mpr ⟨lw_p33, List.forall_mem_cons.mpr ⟨lw_p34, List.forall_mem_cons.mpr ⟨lw_p35, List.forall_mem_cons.mpr ⟨lw_p36, List.forall_mem_cons.mpr ⟨lw_p37, List.forall_mem_cons.mpr ⟨lw_p38, fun _ h => absurd h List.not_mem_nil⟩⟩⟩⟩⟩⟩⟩
def lw_privs : List (MethodName × Nat) := lw_privs_1 ++ (lw_privs_2 ++ (lw_privs_3))
def lw_tbl : List Cond := k2_sels lw_privs ++ tables_1
theorem lw_privs_ok : ∀ q ∈ lw_privs, lw_okq q := by
  show ∀ q ∈ lw_privs_1 ++ (lw_privs_2 ++ (lw_privs_3)), lw_okq q
  exact List.forall_mem_append.mpr ⟨lw_r1, List.forall_mem_append.mpr ⟨lw_r2, lw_r3⟩⟩
def RX0 : String := "CellYard$Dropping"
def TX0 : u_T := fun k => match k with
  | 0 => ("CellYard$Dropping", "shapes", "LCellYard$Shapes;", true)
  | 1 => ("CellYard$Dropping", "ground", "LCellYard$Ground;", true)
  | 2 => ("CellYard$Dropping", "waiting", "[I", true)
  | 3 => ("CellYard$Dropping", "outs", "[J", true)
  | 4 => ("CellYard$Dropping", "waits", "I", false)
  | 5 => ("CellYard$Dropping", "outCount", "I", false)
  | _ => ("CellYard$Dropping", "dropped", "I", false)
def tyX0 : Nat → FieldType := fun k => match k with
  | 0 => .object "CellYard$Shapes"
  | 1 => .object "CellYard$Ground"
  | 2 => .array .int
  | 3 => .array .long
  | 4 => .int
  | 5 => .int
  | _ => .int
abbrev wsX00 : List Cond := u_ws RX0 TX0 7
theorem nmX0 : ∀ a, a < 7 → ∀ b, b < 7 → a ≠ b → (TX0 a).2.1 ≠ (TX0 b).2.1 := by decide +kernel
theorem tyX0_ok : ∀ k, k < 7 → parseFieldDescriptor (TX0 k).2.2.1 = some (tyX0 k) := by decide +kernel
abbrev cX0_init : ByteArray := prog_2_method_1_code
def yX0_init : MethodName := ⟨RX0, "<init>", "(LCellYard$Shapes;LCellYard$Ground;)V"⟩
abbrev cX0_toldDropped : ByteArray := prog_2_method_2_code
def yX0_toldDropped : MethodName := ⟨RX0, "toldDropped", "()I"⟩
abbrev cX0_outLength : ByteArray := prog_2_method_3_code
def yX0_outLength : MethodName := ⟨RX0, "outLength", "()I"⟩
abbrev cX0_toldAs : ByteArray := prog_2_method_4_code
def yX0_toldAs : MethodName := ⟨RX0, "toldAs", "(I)J"⟩
abbrev cX0_dropValue : ByteArray := prog_2_method_5_code
def yX0_dropValue : MethodName := ⟨RX0, "dropValue", "(II)V"⟩
abbrev cX0_await : ByteArray := prog_2_method_6_code
def yX0_await : MethodName := ⟨RX0, "await", "(II)V"⟩
abbrev cX0_dropOne : ByteArray := prog_2_method_7_code
def yX0_dropOne : MethodName := ⟨RX0, "dropOne", "(II)V"⟩
abbrev cX0_tell : ByteArray := prog_2_method_8_code
def yX0_tell : MethodName := ⟨RX0, "tell", "(J)V"⟩
abbrev cX0_awaitFields : ByteArray := prog_2_method_9_code
def yX0_awaitFields : MethodName := ⟨RX0, "awaitFields", "(II)V"⟩
abbrev cX0_awaitBoxed : ByteArray := prog_2_method_10_code
def yX0_awaitBoxed : MethodName := ⟨RX0, "awaitBoxed", "(IJ)V"⟩
abbrev cX0_awaitElements : ByteArray := prog_2_method_11_code
def yX0_awaitElements : MethodName := ⟨RX0, "awaitElements", "(IJ)V"⟩
def RX1 : String := "CellYard$Frames"
def TX1 : u_T := fun k => match k with
  | 0 => ("CellYard$Frames", "handShapes", "[I", true)
  | 1 => ("CellYard$Frames", "handStarts", "[I", true)
  | 2 => ("CellYard$Frames", "slotShapes", "[I", true)
  | 3 => ("CellYard$Frames", "inHand", "I", false)
  | _ => ("CellYard$Frames", "there", "I", false)
def tyX1 : Nat → FieldType := fun k => match k with
  | 0 => .array .int
  | 1 => .array .int
  | 2 => .array .int
  | 3 => .int
  | _ => .int
abbrev wsX10 : List Cond := u_ws RX1 TX1 5
theorem nmX1 : ∀ a, a < 5 → ∀ b, b < 5 → a ≠ b → (TX1 a).2.1 ≠ (TX1 b).2.1 := by decide +kernel
theorem tyX1_ok : ∀ k, k < 5 → parseFieldDescriptor (TX1 k).2.2.1 = some (tyX1 k) := by decide +kernel
abbrev cX1_init : ByteArray := prog_3_method_1_code
def yX1_init : MethodName := ⟨RX1, "<init>", "()V"⟩
abbrev cX1_frameCount : ByteArray := prog_3_method_2_code
def yX1_frameCount : MethodName := ⟨RX1, "frameCount", "()I"⟩
abbrev cX1_lastFrame : ByteArray := prog_3_method_3_code
def yX1_lastFrame : MethodName := ⟨RX1, "lastFrame", "()I"⟩
abbrev cX1_addFrame : ByteArray := prog_3_method_4_code
def yX1_addFrame : MethodName := ⟨RX1, "addFrame", "()V"⟩
abbrev cX1_removeFrame : ByteArray := prog_3_method_5_code
def yX1_removeFrame : MethodName := ⟨RX1, "removeFrame", "()V"⟩
abbrev cX1_handCount : ByteArray := prog_3_method_6_code
def yX1_handCount : MethodName := ⟨RX1, "handCount", "()I"⟩
abbrev cX1_handOfLast : ByteArray := prog_3_method_7_code
def yX1_handOfLast : MethodName := ⟨RX1, "handOfLast", "()I"⟩
abbrev cX1_handHasRoomFor : ByteArray := prog_3_method_8_code
def yX1_handHasRoomFor : MethodName := ⟨RX1, "handHasRoomFor", "(I)Z"⟩
abbrev cX1_handShape : ByteArray := prog_3_method_9_code
def yX1_handShape : MethodName := ⟨RX1, "handShape", "(I)I"⟩
abbrev cX1_topShape : ByteArray := prog_3_method_10_code
def yX1_topShape : MethodName := ⟨RX1, "topShape", "()I"⟩
abbrev cX1_handEndsWith : ByteArray := prog_3_method_11_code
def yX1_handEndsWith : MethodName := ⟨RX1, "handEndsWith", "(II)Z"⟩
abbrev cX1_layOn : ByteArray := prog_3_method_12_code
def yX1_layOn : MethodName := ⟨RX1, "layOn", "(I)V"⟩
abbrev cX1_takeOff : ByteArray := prog_3_method_13_code
def yX1_takeOff : MethodName := ⟨RX1, "takeOff", "(I)V"⟩
abbrev cX1_slotShape : ByteArray := prog_3_method_14_code
def yX1_slotShape : MethodName := ⟨RX1, "slotShape", "(II)I"⟩
abbrev cX1_fillSlot : ByteArray := prog_3_method_15_code
def yX1_fillSlot : MethodName := ⟨RX1, "fillSlot", "(III)V"⟩
abbrev cX1_hasSlot : ByteArray := prog_3_method_16_code
def yX1_hasSlot : MethodName := ⟨RX1, "hasSlot", "(II)Z"⟩
abbrev cX1_filledSlots : ByteArray := prog_3_method_17_code
def yX1_filledSlots : MethodName := ⟨RX1, "filledSlots", "()I"⟩
def RX2 : String := "CellYard$Ground"
def TX2 : u_T := fun k => match k with
  | 0 => ("CellYard$Ground", "cells", "[J", true)
  | 1 => ("CellYard$Ground", "boxTaken", "[Z", true)
  | 2 => ("CellYard$Ground", "rowTaken", "[Z", true)
  | 3 => ("CellYard$Ground", "rowLengths", "[I", true)
  | 4 => ("CellYard$Ground", "boxes", "I", false)
  | _ => ("CellYard$Ground", "rows", "I", false)
def tyX2 : Nat → FieldType := fun k => match k with
  | 0 => .array .long
  | 1 => .array .boolean
  | 2 => .array .boolean
  | 3 => .array .int
  | 4 => .int
  | _ => .int
abbrev wsX20 : List Cond := u_ws RX2 TX2 6
theorem nmX2 : ∀ a, a < 6 → ∀ b, b < 6 → a ≠ b → (TX2 a).2.1 ≠ (TX2 b).2.1 := by decide +kernel
theorem tyX2_ok : ∀ k, k < 6 → parseFieldDescriptor (TX2 k).2.2.1 = some (tyX2 k) := by decide +kernel
abbrev cX2_init : ByteArray := prog_4_method_1_code
def yX2_init : MethodName := ⟨RX2, "<init>", "()V"⟩
abbrev cX2_read : ByteArray := prog_4_method_2_code
def yX2_read : MethodName := ⟨RX2, "read", "(I)J"⟩
abbrev cX2_write : ByteArray := prog_4_method_3_code
def yX2_write : MethodName := ⟨RX2, "write", "(IJ)V"⟩
abbrev cX2_moveCells : ByteArray := prog_4_method_4_code
def yX2_moveCells : MethodName := ⟨RX2, "moveCells", "(III)V"⟩
abbrev cX2_swapCells : ByteArray := prog_4_method_5_code
def yX2_swapCells : MethodName := ⟨RX2, "swapCells", "(III)V"⟩
abbrev cX2_areCells : ByteArray := prog_4_method_6_code
def yX2_areCells : MethodName := ⟨RX2, "areCells", "(II)Z"⟩
abbrev cX2_boxesThere : ByteArray := prog_4_method_7_code
def yX2_boxesThere : MethodName := ⟨RX2, "boxesThere", "()I"⟩
abbrev cX2_rowsThere : ByteArray := prog_4_method_8_code
def yX2_rowsThere : MethodName := ⟨RX2, "rowsThere", "()I"⟩
abbrev cX2_takeBox : ByteArray := prog_4_method_9_code
def yX2_takeBox : MethodName := ⟨RX2, "takeBox", "()I"⟩
abbrev cX2_takeRow : ByteArray := prog_4_method_10_code
def yX2_takeRow : MethodName := ⟨RX2, "takeRow", "(I)I"⟩
abbrev cX2_firstFree : ByteArray := prog_4_method_11_code
def yX2_firstFree : MethodName := ⟨RX2, "firstFree", "([Z)I"⟩
abbrev cX2_freeBox : ByteArray := prog_4_method_12_code
def yX2_freeBox : MethodName := ⟨RX2, "freeBox", "(J)V"⟩
abbrev cX2_freeRow : ByteArray := prog_4_method_13_code
def yX2_freeRow : MethodName := ⟨RX2, "freeRow", "(J)V"⟩
abbrev cX2_isBox : ByteArray := prog_4_method_14_code
def yX2_isBox : MethodName := ⟨RX2, "isBox", "(J)Z"⟩
abbrev cX2_isRow : ByteArray := prog_4_method_15_code
def yX2_isRow : MethodName := ⟨RX2, "isRow", "(J)Z"⟩
abbrev cX2_boxAt : ByteArray := prog_4_method_16_code
def yX2_boxAt : MethodName := ⟨RX2, "boxAt", "(J)I"⟩
abbrev cX2_rowAt : ByteArray := prog_4_method_17_code
def yX2_rowAt : MethodName := ⟨RX2, "rowAt", "(J)I"⟩
abbrev cX2_elementAt : ByteArray := prog_4_method_18_code
def yX2_elementAt : MethodName := ⟨RX2, "elementAt", "(JI)I"⟩
abbrev cX2_lengthOf : ByteArray := prog_4_method_19_code
def yX2_lengthOf : MethodName := ⟨RX2, "lengthOf", "(J)I"⟩
abbrev cX2_setLength : ByteArray := prog_4_method_20_code
def yX2_setLength : MethodName := ⟨RX2, "setLength", "(JI)V"⟩
def RX3 : String := "CellYard$Shapes"
def TX3 : u_T := fun k => match k with
  | 0 => ("CellYard$Shapes", "kinds", "[I", true)
  | 1 => ("CellYard$Shapes", "sizes", "[I", true)
  | 2 => ("CellYard$Shapes", "parts", "[I", true)
  | _ => ("CellYard$Shapes", "known", "I", false)
def tyX3 : Nat → FieldType := fun k => match k with
  | 0 => .array .int
  | 1 => .array .int
  | 2 => .array .int
  | _ => .int
abbrev wsX30 : List Cond := u_ws RX3 TX3 4
theorem nmX3 : ∀ a, a < 4 → ∀ b, b < 4 → a ≠ b → (TX3 a).2.1 ≠ (TX3 b).2.1 := by decide +kernel
theorem tyX3_ok : ∀ k, k < 4 → parseFieldDescriptor (TX3 k).2.2.1 = some (tyX3 k) := by decide +kernel
abbrev cX3_init : ByteArray := prog_5_method_1_code
def yX3_init : MethodName := ⟨RX3, "<init>", "()V"⟩
abbrev cX3_add : ByteArray := prog_5_method_2_code
def yX3_add : MethodName := ⟨RX3, "add", "(IIIII)I"⟩
abbrev cX3_tieLooseBox : ByteArray := prog_5_method_3_code
def yX3_tieLooseBox : MethodName := ⟨RX3, "tieLooseBox", "(II)Z"⟩
abbrev cX3_howMany : ByteArray := prog_5_method_4_code
def yX3_howMany : MethodName := ⟨RX3, "howMany", "()I"⟩
abbrev cX3_has : ByteArray := prog_5_method_5_code
def yX3_has : MethodName := ⟨RX3, "has", "(I)Z"⟩
abbrev cX3_hasOrNone : ByteArray := prog_5_method_6_code
def yX3_hasOrNone : MethodName := ⟨RX3, "hasOrNone", "(I)Z"⟩
abbrev cX3_kindOf : ByteArray := prog_5_method_7_code
def yX3_kindOf : MethodName := ⟨RX3, "kindOf", "(I)I"⟩
abbrev cX3_sizeOf : ByteArray := prog_5_method_8_code
def yX3_sizeOf : MethodName := ⟨RX3, "sizeOf", "(I)I"⟩
abbrev cX3_partOf : ByteArray := prog_5_method_9_code
def yX3_partOf : MethodName := ⟨RX3, "partOf", "(II)I"⟩
abbrev cX3_partsOf : ByteArray := prog_5_method_10_code
def yX3_partsOf : MethodName := ⟨RX3, "partsOf", "(I)I"⟩
abbrev cX3_offsetOf : ByteArray := prog_5_method_11_code
def yX3_offsetOf : MethodName := ⟨RX3, "offsetOf", "(II)I"⟩
def RX4 : String := "CellYard"
def TX4 : u_T := fun k => match k with
  | 0 => ("CellYard", "shapes", "LCellYard$Shapes;", true)
  | 1 => ("CellYard", "ground", "LCellYard$Ground;", true)
  | 2 => ("CellYard", "frames", "LCellYard$Frames;", true)
  | 3 => ("CellYard", "dropping", "LCellYard$Dropping;", true)
  | 4 => ("CellYard", "toldMade", "I", false)
  | _ => ("CellYard", "foundAt", "I", false)
def tyX4 : Nat → FieldType := fun k => match k with
  | 0 => .object "CellYard$Shapes"
  | 1 => .object "CellYard$Ground"
  | 2 => .object "CellYard$Frames"
  | 3 => .object "CellYard$Dropping"
  | 4 => .int
  | _ => .int
abbrev wsX40 : List Cond := u_ws RX4 TX4 6
theorem nmX4 : ∀ a, a < 6 → ∀ b, b < 6 → a ≠ b → (TX4 a).2.1 ≠ (TX4 b).2.1 := by decide +kernel
theorem tyX4_ok : ∀ k, k < 6 → parseFieldDescriptor (TX4 k).2.2.1 = some (tyX4 k) := by decide +kernel
abbrev cX4_init : ByteArray := prog_1_method_1_code
def yX4_init : MethodName := ⟨RX4, "<init>", "()V"⟩
abbrev cX4_record : ByteArray := prog_1_method_2_code
def yX4_record : MethodName := ⟨RX4, "record", "(ZIII)I"⟩
abbrev cX4_choice : ByteArray := prog_1_method_3_code
def yX4_choice : MethodName := ⟨RX4, "choice", "(III)I"⟩
abbrev cX4_box : ByteArray := prog_1_method_4_code
def yX4_box : MethodName := ⟨RX4, "box", "(I)I"⟩
abbrev cX4_tie : ByteArray := prog_1_method_5_code
def yX4_tie : MethodName := ⟨RX4, "tie", "(II)I"⟩
abbrev cX4_row : ByteArray := prog_1_method_6_code
def yX4_row : MethodName := ⟨RX4, "row", "(I)I"⟩
abbrev cX4_about : ByteArray := prog_1_method_7_code
def yX4_about : MethodName := ⟨RX4, "about", "(II)I"⟩
abbrev cX4_number : ByteArray := prog_1_method_8_code
def yX4_number : MethodName := ⟨RX4, "number", "(J)I"⟩
abbrev cX4_make : ByteArray := prog_1_method_9_code
def yX4_make : MethodName := ⟨RX4, "make", "(II)I"⟩
abbrev cX4_gather : ByteArray := prog_1_method_10_code
def yX4_gather : MethodName := ⟨RX4, "gather", "(II)I"⟩
abbrev cX4_open : ByteArray := prog_1_method_11_code
def yX4_open : MethodName := ⟨RX4, "open", "()I"⟩
abbrev cX4_apart : ByteArray := prog_1_method_12_code
def yX4_apart : MethodName := ⟨RX4, "apart", "()I"⟩
abbrev cX4_drop : ByteArray := prog_1_method_13_code
def yX4_drop : MethodName := ⟨RX4, "drop", "()I"⟩
abbrev cX4_store : ByteArray := prog_1_method_14_code
def yX4_store : MethodName := ⟨RX4, "store", "(I)I"⟩
abbrev cX4_load : ByteArray := prog_1_method_15_code
def yX4_load : MethodName := ⟨RX4, "load", "(I)I"⟩
abbrev cX4_set : ByteArray := prog_1_method_16_code
def yX4_set : MethodName := ⟨RX4, "set", "(II)I"⟩
abbrev cX4_swap : ByteArray := prog_1_method_17_code
def yX4_swap : MethodName := ⟨RX4, "swap", "(II)I"⟩
abbrev cX4_push : ByteArray := prog_1_method_18_code
def yX4_push : MethodName := ⟨RX4, "push", "(II)I"⟩
abbrev cX4_pop : ByteArray := prog_1_method_19_code
def yX4_pop : MethodName := ⟨RX4, "pop", "(II)I"⟩
abbrev cX4_enter : ByteArray := prog_1_method_20_code
def yX4_enter : MethodName := ⟨RX4, "enter", "(I)I"⟩
abbrev cX4_leave : ByteArray := prog_1_method_21_code
def yX4_leave : MethodName := ⟨RX4, "leave", "(Z)I"⟩
abbrev cX4_fail : ByteArray := prog_1_method_22_code
def yX4_fail : MethodName := ⟨RX4, "fail", "()I"⟩
abbrev cX4_shape : ByteArray := prog_1_method_23_code
def yX4_shape : MethodName := ⟨RX4, "shape", "(II)I"⟩
abbrev cX4_look : ByteArray := prog_1_method_24_code
def yX4_look : MethodName := ⟨RX4, "look", "(II)J"⟩
abbrev cX4_state : ByteArray := prog_1_method_25_code
def yX4_state : MethodName := ⟨RX4, "state", "(II)I"⟩
abbrev cX4_out : ByteArray := prog_1_method_26_code
def yX4_out : MethodName := ⟨RX4, "out", "(I)J"⟩
abbrev cX4_count : ByteArray := prog_1_method_27_code
def yX4_count : MethodName := ⟨RX4, "count", "(I)I"⟩
abbrev cX4_layOneCell : ByteArray := prog_1_method_28_code
def yX4_layOneCell : MethodName := ⟨RX4, "layOneCell", "(IJ)I"⟩
abbrev cX4_makeRecord : ByteArray := prog_1_method_29_code
def yX4_makeRecord : MethodName := ⟨RX4, "makeRecord", "(I)I"⟩
abbrev cX4_handEndsWithFieldsOf : ByteArray := prog_1_method_30_code
def yX4_handEndsWithFieldsOf : MethodName := ⟨RX4, "handEndsWithFieldsOf", "(II)Z"⟩
abbrev cX4_makeChoice : ByteArray := prog_1_method_31_code
def yX4_makeChoice : MethodName := ⟨RX4, "makeChoice", "(II)I"⟩
abbrev cX4_makeBox : ByteArray := prog_1_method_32_code
def yX4_makeBox : MethodName := ⟨RX4, "makeBox", "(I)I"⟩
abbrev cX4_takeRecordApart : ByteArray := prog_1_method_33_code
def yX4_takeRecordApart : MethodName := ⟨RX4, "takeRecordApart", "(I)I"⟩
abbrev cX4_takeChoiceApart : ByteArray := prog_1_method_34_code
def yX4_takeChoiceApart : MethodName := ⟨RX4, "takeChoiceApart", "(I)I"⟩
abbrev cX4_replaceTopShape : ByteArray := prog_1_method_35_code
def yX4_replaceTopShape : MethodName := ⟨RX4, "replaceTopShape", "(I)V"⟩
abbrev cX4_handAt : ByteArray := prog_1_method_36_code
def yX4_handAt : MethodName := ⟨RX4, "handAt", "(I)I"⟩
abbrev cX4_slotAt : ByteArray := prog_1_method_37_code
def yX4_slotAt : MethodName := ⟨RX4, "slotAt", "(II)I"⟩
abbrev cX4_isSlot : ByteArray := prog_1_method_38_code
def yX4_isSlot : MethodName := ⟨RX4, "isSlot", "(I)Z"⟩
abbrev cX4_topAt : ByteArray := prog_1_method_39_code
def yX4_topAt : MethodName := ⟨RX4, "topAt", "()I"⟩
abbrev cX4_seek : ByteArray := prog_1_method_40_code
def yX4_seek : MethodName := ⟨RX4, "seek", "(II)I"⟩
abbrev cX4_step : ByteArray := prog_1_method_41_code
def yX4_step : MethodName := ⟨RX4, "step", "(II)I"⟩
abbrev cX4_stepToField : ByteArray := prog_1_method_42_code
def yX4_stepToField : MethodName := ⟨RX4, "stepToField", "(II)I"⟩
abbrev cX4_stepToPart : ByteArray := prog_1_method_43_code
def yX4_stepToPart : MethodName := ⟨RX4, "stepToPart", "(I)I"⟩
abbrev cX4_stepIntoBox : ByteArray := prog_1_method_44_code
def yX4_stepIntoBox : MethodName := ⟨RX4, "stepIntoBox", "(I)I"⟩
abbrev cX4_stepToElement : ByteArray := prog_1_method_45_code
def yX4_stepToElement : MethodName := ⟨RX4, "stepToElement", "(II)I"⟩
abbrev cX4_endLastFrame : ByteArray := prog_1_method_46_code
def yX4_endLastFrame : MethodName := ⟨RX4, "endLastFrame", "(I)V"⟩
def RX5 : String := "CellYardModel"
def TX5 : u_T := fun k => match k with
  | 0 => ("CellYardModel", "kind", "[I", true)
  | 1 => ("CellYardModel", "size", "[I", true)
  | 2 => ("CellYardModel", "of", "[I", true)
  | 3 => ("CellYardModel", "shapes", "I", false)
  | 4 => ("CellYardModel", "shapeOf", "[I", false)
  | 5 => ("CellYardModel", "kids", "[I", false)
  | 6 => ("CellYardModel", "num", "[J", false)
  | 7 => ("CellYardModel", "nodes", "I", false)
  | 8 => ("CellYardModel", "spare", "I", false)
  | 9 => ("CellYardModel", "hand", "[I", true)
  | 10 => ("CellYardModel", "slots", "[I", true)
  | 11 => ("CellYardModel", "ahead", "[I", true)
  | 12 => ("CellYardModel", "held", "I", false)
  | 13 => ("CellYardModel", "frames", "I", false)
  | 14 => ("CellYardModel", "outs", "[J", true)
  | 15 => ("CellYardModel", "told", "I", false)
  | 16 => ("CellYardModel", "boxes", "I", false)
  | 17 => ("CellYardModel", "rows", "I", false)
  | 18 => ("CellYardModel", "made", "I", false)
  | 19 => ("CellYardModel", "dropped", "I", false)
  | 20 => ("CellYardModel", "isSlot", "Z", false)
  | 21 => ("CellYardModel", "inNode", "I", false)
  | _ => ("CellYardModel", "atKid", "I", false)
def tyX5 : Nat → FieldType := fun k => match k with
  | 0 => .array .int
  | 1 => .array .int
  | 2 => .array .int
  | 3 => .int
  | 4 => .array .int
  | 5 => .array .int
  | 6 => .array .long
  | 7 => .int
  | 8 => .int
  | 9 => .array .int
  | 10 => .array .int
  | 11 => .array .int
  | 12 => .int
  | 13 => .int
  | 14 => .array .long
  | 15 => .int
  | 16 => .int
  | 17 => .int
  | 18 => .int
  | 19 => .int
  | 20 => .boolean
  | 21 => .int
  | _ => .int
abbrev wsX50 : List Cond := u_ws RX5 TX5 23
theorem nmX5 : ∀ a, a < 23 → ∀ b, b < 23 → a ≠ b → (TX5 a).2.1 ≠ (TX5 b).2.1 := by decide +kernel
theorem tyX5_ok : ∀ k, k < 23 → parseFieldDescriptor (TX5 k).2.2.1 = some (tyX5 k) := by decide +kernel
abbrev cX5_init : ByteArray := prog_7_method_1_code
def yX5_init : MethodName := ⟨RX5, "<init>", "()V"⟩
abbrev cX5_in : ByteArray := prog_7_method_2_code
def yX5_in : MethodName := ⟨RX5, "in", "(III)Z"⟩
abbrev cX5_isShape : ByteArray := prog_7_method_3_code
def yX5_isShape : MethodName := ⟨RX5, "isShape", "(I)Z"⟩
abbrev cX5_come : ByteArray := prog_7_method_4_code
def yX5_come : MethodName := ⟨RX5, "come", "(IIIII)I"⟩
abbrev cX5_sizeOf : ByteArray := prog_7_method_5_code
def yX5_sizeOf : MethodName := ⟨RX5, "sizeOf", "(I)I"⟩
abbrev cX5_record : ByteArray := prog_7_method_6_code
def yX5_record : MethodName := ⟨RX5, "record", "(ZIII)I"⟩
abbrev cX5_choice : ByteArray := prog_7_method_7_code
def yX5_choice : MethodName := ⟨RX5, "choice", "(III)I"⟩
abbrev cX5_box : ByteArray := prog_7_method_8_code
def yX5_box : MethodName := ⟨RX5, "box", "(I)I"⟩
abbrev cX5_tie : ByteArray := prog_7_method_9_code
def yX5_tie : MethodName := ⟨RX5, "tie", "(II)I"⟩
abbrev cX5_row : ByteArray := prog_7_method_10_code
def yX5_row : MethodName := ⟨RX5, "row", "(I)I"⟩
abbrev cX5_about : ByteArray := prog_7_method_11_code
def yX5_about : MethodName := ⟨RX5, "about", "(II)I"⟩
abbrev cX5_node : ByteArray := prog_7_method_12_code
def yX5_node : MethodName := ⟨RX5, "node", "(IJ)I"⟩
abbrev cX5_grow : ByteArray := prog_7_method_13_code
def yX5_grow : MethodName := ⟨RX5, "grow", "()V"⟩
abbrev cX5_free : ByteArray := prog_7_method_14_code
def yX5_free : MethodName := ⟨RX5, "free", "(I)V"⟩
abbrev cX5_kindOf : ByteArray := prog_7_method_15_code
def yX5_kindOf : MethodName := ⟨RX5, "kindOf", "(I)I"⟩
abbrev cX5_dropped : ByteArray := prog_7_method_16_code
def yX5_dropped : MethodName := ⟨RX5, "dropped", "(I)V"⟩
abbrev cX5_mine : ByteArray := prog_7_method_17_code
def yX5_mine : MethodName := ⟨RX5, "mine", "()I"⟩
abbrev cX5_top : ByteArray := prog_7_method_18_code
def yX5_top : MethodName := ⟨RX5, "top", "(I)I"⟩
abbrev cX5_slot : ByteArray := prog_7_method_19_code
def yX5_slot : MethodName := ⟨RX5, "slot", "(I)I"⟩
abbrev cX5_find : ByteArray := prog_7_method_20_code
def yX5_find : MethodName := ⟨RX5, "find", "(II)I"⟩
abbrev cX5_put : ByteArray := prog_7_method_21_code
def yX5_put : MethodName := ⟨RX5, "put", "(I)V"⟩
abbrev cX5_comes : ByteArray := prog_7_method_22_code
def yX5_comes : MethodName := ⟨RX5, "comes", "(I)I"⟩
abbrev cX5_number : ByteArray := prog_7_method_23_code
def yX5_number : MethodName := ⟨RX5, "number", "(J)I"⟩
abbrev cX5_parts : ByteArray := prog_7_method_24_code
def yX5_parts : MethodName := ⟨RX5, "parts", "(I)I"⟩
abbrev cX5_wrap : ByteArray := prog_7_method_25_code
def yX5_wrap : MethodName := ⟨RX5, "wrap", "(IJI)I"⟩
abbrev cX5_make : ByteArray := prog_7_method_26_code
def yX5_make : MethodName := ⟨RX5, "make", "(II)I"⟩
abbrev cX5_gather : ByteArray := prog_7_method_27_code
def yX5_gather : MethodName := ⟨RX5, "gather", "(II)I"⟩
abbrev cX5_open : ByteArray := prog_7_method_28_code
def yX5_open : MethodName := ⟨RX5, "open", "()I"⟩
abbrev cX5_apart : ByteArray := prog_7_method_29_code
def yX5_apart : MethodName := ⟨RX5, "apart", "()I"⟩
abbrev cX5_drop : ByteArray := prog_7_method_30_code
def yX5_drop : MethodName := ⟨RX5, "drop", "()I"⟩
abbrev cX5_store : ByteArray := prog_7_method_31_code
def yX5_store : MethodName := ⟨RX5, "store", "(I)I"⟩
abbrev cX5_load : ByteArray := prog_7_method_32_code
def yX5_load : MethodName := ⟨RX5, "load", "(I)I"⟩
abbrev cX5_set : ByteArray := prog_7_method_33_code
def yX5_set : MethodName := ⟨RX5, "set", "(II)I"⟩
abbrev cX5_swap : ByteArray := prog_7_method_34_code
def yX5_swap : MethodName := ⟨RX5, "swap", "(II)I"⟩
abbrev cX5_push : ByteArray := prog_7_method_35_code
def yX5_push : MethodName := ⟨RX5, "push", "(II)I"⟩
abbrev cX5_pop : ByteArray := prog_7_method_36_code
def yX5_pop : MethodName := ⟨RX5, "pop", "(II)I"⟩
abbrev cX5_enter : ByteArray := prog_7_method_37_code
def yX5_enter : MethodName := ⟨RX5, "enter", "(I)I"⟩
abbrev cX5_empty : ByteArray := prog_7_method_38_code
def yX5_empty : MethodName := ⟨RX5, "empty", "()V"⟩
abbrev cX5_leave : ByteArray := prog_7_method_39_code
def yX5_leave : MethodName := ⟨RX5, "leave", "(Z)I"⟩
abbrev cX5_fail : ByteArray := prog_7_method_40_code
def yX5_fail : MethodName := ⟨RX5, "fail", "()I"⟩
abbrev cX5_shape : ByteArray := prog_7_method_41_code
def yX5_shape : MethodName := ⟨RX5, "shape", "(II)I"⟩
abbrev cX5_look : ByteArray := prog_7_method_42_code
def yX5_look : MethodName := ⟨RX5, "look", "(II)J"⟩
abbrev cX5_state : ByteArray := prog_7_method_43_code
def yX5_state : MethodName := ⟨RX5, "state", "(II)I"⟩
abbrev cX5_out : ByteArray := prog_7_method_44_code
def yX5_out : MethodName := ⟨RX5, "out", "(I)J"⟩
abbrev cX5_count : ByteArray := prog_7_method_45_code
def yX5_count : MethodName := ⟨RX5, "count", "(I)I"⟩
abbrev RL : String := "CellYardLaw"
abbrev vwCl : List vw_C := [(RX0, TX0, 7), (RX1, TX1, 5), (RX2, TX2, 6), (RX3, TX3, 4), (RX4, TX4, 6), (RX5, TX5, 23)]
/-- the words that go down into every call -/
def am_tb : List Cond := lw_tbl.filter goodWord
def am_wd (p : Nat) (w : Cond) : Bool := decide (lw_tbl[p]? = some w) && goodWord w
theorem am_wd_ok {p : Nat} {w : Cond} (h : am_wd p w = true) : w ∈ am_tb := by
  simp only [am_wd, Bool.and_eq_true, decide_eq_true_eq] at h
  exact List.mem_filter.mpr ⟨List.mem_of_getElem? h.1, h.2⟩
theorem am_tb_in : ∀ w ∈ am_tb, w ∈ lw_tbl := fun w h => (List.mem_filter.mp h).1
theorem am_tb_good : ∀ w ∈ am_tb, (w.onTables && w.keeps) = true ∨ ∃ ty, w = .arrayClass ty := fun w h => good_of_word (List.mem_filter.mp h).2
def am_cn (o : Nat) : String := match o with
  | 0 => RX0
  | 1 => RX1
  | 2 => RX2
  | 3 => RX3
  | 4 => RX4
  | 5 => RX5
  | _ => RL
def am_T (o : Nat) : u_T := match o with
  | 0 => TX0
  | 1 => TX1
  | 2 => TX2
  | 3 => TX3
  | 4 => TX4
  | _ => TX5
def am_N (o : Nat) : Nat := match o with
  | 0 => 7
  | 1 => 5
  | 2 => 6
  | 3 => 4
  | 4 => 6
  | _ => 23
def am_ty (o : Nat) : Nat → FieldType := match o with
  | 0 => tyX0
  | 1 => tyX1
  | 2 => tyX2
  | 3 => tyX3
  | 4 => tyX4
  | _ => tyX5
set_option maxRecDepth 20000 in
theorem am_u0 : ∀ w ∈ wsX00, w ∈ am_tb := by
  have h : ((wsX00.zip [142, 144, 146, 148, 150, 152, 154]).all (fun q => am_wd q.2 q.1)) = true := by decide +kernel
  have h2 : (wsX00.zip [142, 144, 146, 148, 150, 152, 154]).map (fun q => q.1) = wsX00 := by decide +kernel
  intro w hw
  rw [← h2] at hw
  obtain ⟨q, hq, rfl⟩ := List.mem_map.mp hw
  exact am_wd_ok (List.all_eq_true.mp h q hq)
set_option maxRecDepth 20000 in
theorem am_u1 : ∀ w ∈ wsX10, w ∈ am_tb := by
  have h : ((wsX10.zip [118, 120, 122, 124, 126]).all (fun q => am_wd q.2 q.1)) = true := by decide +kernel
  have h2 : (wsX10.zip [118, 120, 122, 124, 126]).map (fun q => q.1) = wsX10 := by decide +kernel
  intro w hw
  rw [← h2] at hw
  obtain ⟨q, hq, rfl⟩ := List.mem_map.mp hw
  exact am_wd_ok (List.all_eq_true.mp h q hq)
set_option maxRecDepth 20000 in
theorem am_u2 : ∀ w ∈ wsX20, w ∈ am_tb := by
  have h : ((wsX20.zip [92, 94, 96, 98, 100, 102]).all (fun q => am_wd q.2 q.1)) = true := by decide +kernel
  have h2 : (wsX20.zip [92, 94, 96, 98, 100, 102]).map (fun q => q.1) = wsX20 := by decide +kernel
  intro w hw
  rw [← h2] at hw
  obtain ⟨q, hq, rfl⟩ := List.mem_map.mp hw
  exact am_wd_ok (List.all_eq_true.mp h q hq)
set_option maxRecDepth 20000 in
theorem am_u3 : ∀ w ∈ wsX30, w ∈ am_tb := by
  have h : ((wsX30.zip [70, 72, 74, 76]).all (fun q => am_wd q.2 q.1)) = true := by decide +kernel
  have h2 : (wsX30.zip [70, 72, 74, 76]).map (fun q => q.1) = wsX30 := by decide +kernel
  intro w hw
  rw [← h2] at hw
  obtain ⟨q, hq, rfl⟩ := List.mem_map.mp hw
  exact am_wd_ok (List.all_eq_true.mp h q hq)
set_option maxRecDepth 20000 in
theorem am_u4 : ∀ w ∈ wsX40, w ∈ am_tb := by
  have h : ((wsX40.zip [163, 165, 167, 169, 171, 173]).all (fun q => am_wd q.2 q.1)) = true := by decide +kernel
  have h2 : (wsX40.zip [163, 165, 167, 169, 171, 173]).map (fun q => q.1) = wsX40 := by decide +kernel
  intro w hw
  rw [← h2] at hw
  obtain ⟨q, hq, rfl⟩ := List.mem_map.mp hw
  exact am_wd_ok (List.all_eq_true.mp h q hq)
set_option maxRecDepth 20000 in
theorem am_u5 : ∀ w ∈ wsX50, w ∈ am_tb := by
  have h : ((wsX50.zip [620, 622, 624, 626, 628, 630, 632, 634, 636, 638, 640, 642, 644, 646, 648, 650, 652, 654, 656, 658, 660, 662, 664]).all (fun q => am_wd q.2 q.1)) = true := by decide +kernel
  have h2 : (wsX50.zip [620, 622, 624, 626, 628, 630, 632, 634, 636, 638, 640, 642, 644, 646, 648, 650, 652, 654, 656, 658, 660, 662, 664]).map (fun q => q.1) = wsX50 := by decide +kernel
  intro w hw
  rw [← h2] at hw
  obtain ⟨q, hq, rfl⟩ := List.mem_map.mp hw
  exact am_wd_ok (List.all_eq_true.mp h q hq)
theorem am_cls (o : Nat) (h : o < 6) : vwCl[o]? = some (am_cn o, am_T o, am_N o) ∧ (∀ w ∈ u_ws (am_cn o) (am_T o) (am_N o), w ∈ am_tb) ∧ (∀ k, k < am_N o → parseFieldDescriptor (am_T o k).2.2.1 = some (am_ty o k)) ∧ (∀ a, a < am_N o → ∀ b, b < am_N o → a ≠ b → (am_T o a).2.1 ≠ (am_T o b).2.1) := by
  match o, h with
  | 0, _ => exact ⟨rfl, am_u0, tyX0_ok, nmX0⟩
  | 1, _ => exact ⟨rfl, am_u1, tyX1_ok, nmX1⟩
  | 2, _ => exact ⟨rfl, am_u2, tyX2_ok, nmX2⟩
  | 3, _ => exact ⟨rfl, am_u3, tyX3_ok, nmX3⟩
  | 4, _ => exact ⟨rfl, am_u4, tyX4_ok, nmX4⟩
  | 5, _ => exact ⟨rfl, am_u5, tyX5_ok, nmX5⟩
def am_df (o : Nat) : List Value := match o with
  | 0 => [.null, .null, .null, .null, .int 0, .int 0, .int 0]
  | 1 => [.null, .null, .null, .int 0, .int 0]
  | 2 => [.null, .null, .null, .null, .int 0, .int 0]
  | 3 => [.null, .null, .null, .int 0]
  | 4 => [.null, .null, .null, .null, .int 0, .int 0]
  | _ => [.null, .null, .null, .int 0, .null, .null, .null, .int 0, .int 0, .null, .null, .null, .int 0, .int 0, .null, .int 0, .int 0, .int 0, .int 0, .int 0, .int 0, .int 0, .int 0]
theorem am_df_ok (o : Nat) (h : o < 6) : ∀ j, j < am_N o → defaultValue (am_ty o j) = vp_V (am_df o) j := by
  match o, h with
  | 0, _ => exact (by decide +kernel : ∀ j, j < 7 → defaultValue (tyX0 j) = vp_V (am_df 0) j)
  | 1, _ => exact (by decide +kernel : ∀ j, j < 5 → defaultValue (tyX1 j) = vp_V (am_df 1) j)
  | 2, _ => exact (by decide +kernel : ∀ j, j < 6 → defaultValue (tyX2 j) = vp_V (am_df 2) j)
  | 3, _ => exact (by decide +kernel : ∀ j, j < 4 → defaultValue (tyX3 j) = vp_V (am_df 3) j)
  | 4, _ => exact (by decide +kernel : ∀ j, j < 6 → defaultValue (tyX4 j) = vp_V (am_df 4) j)
  | 5, _ => exact (by decide +kernel : ∀ j, j < 23 → defaultValue (tyX5 j) = vp_V (am_df 5) j)
/-- field links: owner, pool place, class, field, place of the word -/
def am_fl : List (Nat × Nat × Nat × Nat × Nat) := [(0, 11, 0, 2, 137), (0, 15, 0, 3, 138), (0, 19, 0, 4, 139), (0, 23, 0, 5, 140), (0, 26, 0, 6, 141), (0, 29, 0, 0, 135), (0, 33, 0, 1, 136), (1, 9, 1, 0, 113), (1, 15, 1, 1, 114), (1, 18, 1, 2, 115), (1, 21, 1, 3, 116), (1, 25, 1, 4, 117), (2, 9, 2, 0, 86), (2, 15, 2, 1, 87), (2, 19, 2, 2, 88), (2, 22, 2, 3, 89), (2, 26, 2, 4, 90), (2, 30, 2, 5, 91), (3, 9, 3, 0, 66), (3, 15, 3, 1, 67), (3, 18, 3, 2, 68), (3, 21, 3, 3, 69), (4, 12, 4, 0, 157), (4, 19, 4, 1, 158), (4, 26, 4, 2, 159), (4, 35, 4, 3, 160), (4, 39, 4, 4, 161), (4, 43, 4, 5, 162), (5, 7, 5, 0, 597), (5, 13, 5, 1, 598), (5, 16, 5, 2, 599), (5, 19, 5, 3, 600), (5, 23, 5, 4, 601), (5, 26, 5, 5, 602), (5, 29, 5, 6, 603), (5, 33, 5, 7, 604), (5, 36, 5, 9, 606), (5, 39, 5, 10, 607), (5, 42, 5, 11, 608), (5, 45, 5, 13, 610), (5, 48, 5, 14, 611), (5, 73, 5, 8, 605), (5, 82, 5, 15, 612), (5, 85, 5, 19, 616), (5, 91, 5, 16, 613), (5, 94, 5, 17, 614), (5, 100, 5, 12, 609), (5, 107, 5, 20, 617), (5, 111, 5, 21, 618), (5, 114, 5, 22, 619), (5, 134, 5, 18, 615)]
def am_fk (q : Nat × Nat × Nat × Nat × Nat) : Bool := match q with
  | (o, i, c, k, p) => decide (c < 6) && decide (k < am_N c) && am_wd p (.fieldLink (am_cn o) i (am_T c k).1 (am_T c k).2.1 (am_T c k).2.2.1)
set_option maxRecDepth 20000 in
theorem am_fl_ok : am_fl.all am_fk = true := by decide +kernel
def am_nl : List (Nat × Nat × Nat × Nat × Nat × Nat) := [(4, 9, 3, 56, 57, 41), (4, 16, 2, 80, 81, 42), (4, 23, 1, 107, 108, 43), (4, 30, 0, 129, 130, 44), (6, 7, 4, 48, 49, 40), (6, 10, 5, 591, 592, 45)]
def am_nk (q : Nat × Nat × Nat × Nat × Nat × Nat) : Bool := match q with
  | (o, i, c, p, p2, p3) => decide (c < 6) && am_wd p (.classLink (am_cn o) i (am_cn c)) && am_wd p2 (.instantiable (am_cn c) (am_N c)) && am_wd p3 (.initialized (am_cn c))
set_option maxRecDepth 20000 in
theorem am_nl_ok : am_nl.all am_nk = true := by decide +kernel
def am_ki : List (Nat × Nat × Int32 × Nat) := [(0, 41, 1000000, 397), (4, 232, 16777215, 475), (5, 103, 16777215, 791)]
def am_kl : List (Nat × Nat × Int64 × Nat) := [(2, 54, 60, 336), (2, 56, 20, 360), (5, 147, 8, 804), (6, 41, 4294967295, 845)]
set_option maxRecDepth 20000 in
theorem am_ki_ok : am_ki.all (fun q => am_wd q.2.2.2 (.constant (am_cn q.1) q.2.1 q.2.2.1)) = true := by decide +kernel
set_option maxRecDepth 20000 in
theorem am_kl_ok : am_kl.all (fun q => am_wd q.2.2.2 (.constantLong (am_cn q.1) q.2.1 q.2.2.1)) = true := by decide +kernel
abbrev am_my : List MethodName := [yX0_init, yX0_toldDropped, yX0_outLength, yX0_toldAs, yX0_dropValue, yX0_await, yX0_dropOne, yX0_tell, yX0_awaitFields, yX0_awaitBoxed, yX0_awaitElements, yX1_init, yX1_frameCount, yX1_lastFrame, yX1_addFrame, yX1_removeFrame, yX1_handCount, yX1_handOfLast, yX1_handHasRoomFor, yX1_handShape, yX1_topShape, yX1_handEndsWith, yX1_layOn, yX1_takeOff, yX1_slotShape, yX1_fillSlot, yX1_hasSlot, yX1_filledSlots, yX2_init, yX2_read, yX2_write, yX2_moveCells, yX2_swapCells, yX2_areCells, yX2_boxesThere, yX2_rowsThere, yX2_takeBox, yX2_takeRow, yX2_firstFree, yX2_freeBox, yX2_freeRow, yX2_isBox, yX2_isRow, yX2_boxAt, yX2_rowAt, yX2_elementAt, yX2_lengthOf, yX2_setLength, yX3_init, yX3_add, yX3_tieLooseBox, yX3_howMany, yX3_has, yX3_hasOrNone, yX3_kindOf, yX3_sizeOf, yX3_partOf, yX3_partsOf, yX3_offsetOf, yX4_init, yX4_record, yX4_choice, yX4_box, yX4_tie, yX4_row, yX4_about, yX4_number, yX4_make, yX4_gather, yX4_open, yX4_apart, yX4_drop, yX4_store, yX4_load, yX4_set, yX4_swap, yX4_push, yX4_pop, yX4_enter, yX4_leave, yX4_fail, yX4_shape, yX4_look, yX4_state, yX4_out, yX4_count, yX4_layOneCell, yX4_makeRecord, yX4_handEndsWithFieldsOf, yX4_makeChoice, yX4_makeBox, yX4_takeRecordApart, yX4_takeChoiceApart, yX4_replaceTopShape, yX4_handAt, yX4_slotAt, yX4_isSlot, yX4_topAt, yX4_seek, yX4_step, yX4_stepToField, yX4_stepToPart, yX4_stepIntoBox, yX4_stepToElement, yX4_endLastFrame, yX5_init, yX5_in, yX5_isShape, yX5_come, yX5_sizeOf, yX5_record, yX5_choice, yX5_box, yX5_tie, yX5_row, yX5_about, yX5_node, yX5_grow, yX5_free, yX5_kindOf, yX5_dropped, yX5_mine, yX5_top, yX5_slot, yX5_find, yX5_put, yX5_comes, yX5_number, yX5_parts, yX5_wrap, yX5_make, yX5_gather, yX5_open, yX5_apart, yX5_drop, yX5_store, yX5_load, yX5_set, yX5_swap, yX5_push, yX5_pop, yX5_enter, yX5_empty, yX5_leave, yX5_fail, yX5_shape, yX5_look, yX5_state, yX5_out, yX5_count]
/-- method links: kind (0 virtual, 1 constructor, 2 static, 3 nest constructor, 4 nest static, 5 Object, 6 Math.max, 7 arraycopy), owner, pool place, method, places of the words -/
def am_ml : List (Nat × Nat × Nat × Nat × Nat × Nat × Nat × Nat) := [(5, 0, 3, 0, 134, 0, 0, 0),
  (0, 0, 37, 5, 393, 395, 9, 44),
  (0, 0, 42, 6, 398, 400, 10, 44),
  (0, 0, 45, 54, 402, 214, 215, 41),
  (0, 0, 51, 29, 403, 366, 367, 42),
  (0, 0, 57, 7, 404, 406, 11, 44),
  (0, 0, 61, 8, 408, 410, 12, 44),
  (0, 0, 64, 56, 413, 218, 219, 41),
  (0, 0, 68, 9, 414, 416, 13, 44),
  (0, 0, 72, 10, 420, 422, 14, 44),
  (0, 0, 75, 55, 412, 190, 191, 41),
  (0, 0, 78, 39, 418, 370, 371, 42),
  (0, 0, 81, 43, 419, 330, 331, 42),
  (0, 0, 85, 40, 424, 425, 426, 42),
  (0, 0, 88, 46, 428, 429, 430, 42),
  (0, 0, 91, 45, 432, 433, 434, 42),
  (5, 1, 3, 0, 112, 0, 0, 0),
  (0, 1, 28, 17, 308, 282, 283, 43),
  (0, 1, 32, 19, 309, 286, 287, 43),
  (2, 1, 36, 26, 452, 453, 43, 0),
  (5, 2, 3, 0, 85, 0, 0, 0),
  (2, 2, 33, 33, 262, 263, 42, 0),
  (7, 2, 37, 0, 293, 0, 0, 0),
  (2, 2, 43, 38, 326, 327, 42, 0),
  (2, 2, 47, 41, 333, 334, 42, 0),
  (2, 2, 51, 42, 357, 358, 42, 0),
  (0, 2, 58, 44, 436, 354, 355, 42),
  (5, 3, 3, 0, 61, 0, 0, 0),
  (0, 3, 25, 49, 62, 63, 64, 41),
  (0, 3, 29, 54, 213, 214, 215, 41),
  (0, 3, 33, 56, 217, 218, 219, 41),
  (0, 3, 37, 52, 188, 181, 182, 41),
  (0, 3, 41, 55, 488, 190, 191, 41),
  (5, 4, 3, 0, 53, 0, 0, 0),
  (1, 4, 11, 48, 58, 59, 41, 0),
  (1, 4, 25, 11, 109, 110, 43, 0),
  (1, 4, 32, 0, 131, 132, 44, 0),
  (0, 4, 46, 52, 180, 181, 182, 41),
  (0, 4, 50, 53, 184, 185, 186, 41),
  (0, 4, 53, 55, 189, 190, 191, 41),
  (0, 4, 57, 49, 193, 63, 64, 41),
  (6, 4, 61, 0, 198, 0, 0, 0),
  (0, 4, 67, 50, 209, 210, 211, 41),
  (0, 4, 71, 54, 229, 214, 215, 41),
  (0, 4, 74, 56, 230, 218, 219, 41),
  (0, 4, 77, 86, 235, 237, 0, 40),
  (0, 4, 81, 87, 269, 271, 2, 40),
  (0, 4, 84, 89, 300, 302, 4, 40),
  (0, 4, 87, 90, 314, 316, 6, 40),
  (0, 4, 90, 21, 341, 342, 343, 43),
  (0, 4, 93, 18, 239, 240, 241, 43),
  (0, 4, 96, 35, 345, 346, 347, 42),
  (0, 4, 100, 37, 349, 350, 351, 42),
  (0, 4, 103, 16, 251, 252, 253, 43),
  (2, 4, 106, 94, 255, 256, 40, 0),
  (0, 4, 109, 44, 353, 354, 355, 42),
  (0, 4, 113, 31, 289, 290, 291, 42),
  (0, 4, 117, 30, 258, 259, 260, 42),
  (0, 4, 121, 23, 296, 297, 298, 43),
  (0, 4, 125, 22, 243, 244, 245, 43),
  (0, 4, 128, 20, 304, 305, 306, 43),
  (0, 4, 131, 97, 247, 249, 1, 40),
  (0, 4, 134, 29, 365, 366, 367, 42),
  (0, 4, 138, 43, 329, 330, 331, 42),
  (0, 4, 141, 39, 369, 370, 371, 42),
  (0, 4, 145, 93, 310, 312, 5, 40),
  (0, 4, 148, 91, 377, 379, 7, 40),
  (0, 4, 151, 92, 381, 383, 8, 40),
  (0, 4, 154, 4, 389, 390, 391, 44),
  (2, 4, 158, 96, 441, 442, 40, 0),
  (0, 4, 161, 13, 444, 445, 446, 43),
  (0, 4, 164, 24, 448, 449, 450, 43),
  (2, 4, 167, 95, 456, 457, 40, 0),
  (0, 4, 170, 25, 459, 460, 461, 43),
  (0, 4, 173, 98, 471, 473, 15, 40),
  (0, 4, 176, 32, 507, 508, 509, 42),
  (0, 4, 179, 46, 501, 429, 430, 42),
  (0, 4, 182, 45, 502, 433, 434, 42),
  (0, 4, 186, 47, 515, 516, 517, 42),
  (0, 4, 190, 17, 281, 282, 283, 43),
  (0, 4, 193, 12, 527, 528, 529, 43),
  (0, 4, 196, 19, 285, 286, 287, 43),
  (0, 4, 199, 14, 531, 532, 533, 43),
  (0, 4, 202, 104, 539, 541, 21, 40),
  (0, 4, 205, 3, 567, 568, 569, 44),
  (0, 4, 208, 51, 575, 576, 577, 41),
  (0, 4, 211, 27, 579, 580, 581, 43),
  (0, 4, 214, 34, 318, 319, 320, 42),
  (0, 4, 217, 1, 583, 584, 585, 44),
  (0, 4, 220, 2, 587, 588, 589, 44),
  (0, 4, 223, 57, 273, 274, 275, 41),
  (0, 4, 226, 88, 277, 279, 3, 40),
  (0, 4, 229, 36, 322, 323, 324, 42),
  (0, 4, 233, 99, 476, 478, 16, 40),
  (0, 4, 236, 100, 480, 482, 17, 40),
  (0, 4, 239, 101, 489, 491, 18, 40),
  (0, 4, 242, 102, 493, 495, 19, 40),
  (0, 4, 245, 103, 497, 499, 20, 40),
  (0, 4, 248, 58, 484, 485, 486, 41),
  (0, 4, 251, 15, 543, 544, 545, 43),
  (5, 5, 1, 0, 596, 0, 0, 0),
  (2, 5, 51, 106, 675, 676, 45, 0),
  (0, 5, 55, 107, 671, 673, 22, 45),
  (0, 5, 59, 109, 678, 680, 23, 45),
  (0, 5, 63, 108, 682, 684, 24, 45),
  (6, 5, 67, 0, 690, 0, 0, 0),
  (0, 5, 76, 117, 715, 717, 26, 45),
  (0, 5, 79, 119, 751, 753, 32, 45),
  (0, 5, 88, 120, 767, 769, 34, 45),
  (0, 5, 97, 118, 755, 757, 33, 45),
  (0, 5, 104, 123, 775, 777, 35, 45),
  (0, 5, 117, 116, 711, 713, 25, 45),
  (0, 5, 121, 126, 719, 721, 27, 45),
  (0, 5, 124, 128, 727, 729, 28, 45),
  (0, 5, 127, 121, 731, 733, 29, 45),
  (0, 5, 131, 122, 735, 737, 30, 45),
  (0, 5, 137, 129, 739, 741, 31, 45),
  (0, 5, 141, 124, 787, 789, 36, 45),
  (0, 5, 144, 125, 792, 794, 37, 45),
  (0, 5, 149, 142, 817, 819, 38, 45),
  (1, 6, 9, 59, 50, 51, 40, 0),
  (1, 6, 12, 105, 593, 594, 45, 0),
  (0, 6, 13, 60, 176, 177, 178, 40),
  (0, 6, 17, 110, 667, 668, 669, 45),
  (0, 6, 18, 61, 194, 195, 196, 40),
  (0, 6, 22, 111, 686, 687, 688, 45),
  (0, 6, 23, 62, 201, 202, 203, 40),
  (0, 6, 27, 112, 691, 692, 693, 45),
  (0, 6, 28, 63, 205, 206, 207, 40),
  (0, 6, 32, 113, 695, 696, 697, 45),
  (0, 6, 33, 64, 221, 222, 223, 40),
  (0, 6, 36, 114, 699, 700, 701, 45),
  (0, 6, 37, 65, 225, 226, 227, 40),
  (0, 6, 40, 115, 703, 704, 705, 45),
  (0, 6, 43, 66, 231, 232, 233, 40),
  (0, 6, 47, 127, 707, 708, 709, 45),
  (0, 6, 48, 67, 265, 266, 267, 40),
  (0, 6, 51, 130, 723, 724, 725, 45),
  (0, 6, 52, 68, 337, 338, 339, 40),
  (0, 6, 55, 131, 743, 744, 745, 45),
  (0, 6, 56, 69, 361, 362, 363, 40),
  (0, 6, 60, 132, 747, 748, 749, 45),
  (0, 6, 61, 70, 373, 374, 375, 40),
  (0, 6, 64, 133, 759, 760, 761, 45),
  (0, 6, 65, 71, 385, 386, 387, 40),
  (0, 6, 68, 134, 763, 764, 765, 45),
  (0, 6, 69, 72, 437, 438, 439, 40),
  (0, 6, 72, 135, 771, 772, 773, 45),
  (0, 6, 73, 73, 463, 464, 465, 40),
  (0, 6, 76, 136, 779, 780, 781, 45),
  (0, 6, 77, 74, 467, 468, 469, 40),
  (0, 6, 80, 137, 783, 784, 785, 45),
  (0, 6, 81, 75, 503, 504, 505, 40),
  (0, 6, 84, 138, 796, 797, 798, 45),
  (0, 6, 85, 76, 511, 512, 513, 40),
  (0, 6, 88, 139, 800, 801, 802, 45),
  (0, 6, 89, 77, 519, 520, 521, 40),
  (0, 6, 92, 140, 805, 806, 807, 45),
  (0, 6, 93, 78, 523, 524, 525, 40),
  (0, 6, 96, 141, 809, 810, 811, 45),
  (0, 6, 97, 79, 535, 536, 537, 40),
  (0, 6, 101, 143, 813, 814, 815, 45),
  (0, 6, 102, 80, 547, 548, 549, 40),
  (0, 6, 105, 144, 821, 822, 823, 45),
  (0, 6, 106, 81, 551, 552, 553, 40),
  (0, 6, 109, 145, 825, 826, 827, 45),
  (0, 6, 110, 82, 555, 556, 557, 40),
  (0, 6, 114, 146, 829, 830, 831, 45),
  (0, 6, 115, 83, 559, 560, 561, 40),
  (0, 6, 118, 147, 833, 834, 835, 45),
  (0, 6, 119, 84, 563, 564, 565, 40),
  (0, 6, 123, 148, 837, 838, 839, 45),
  (0, 6, 124, 85, 571, 572, 573, 40),
  (0, 6, 127, 149, 841, 842, 843, 45),
  (4, 1, 40, 96, 455, 442, 40, 0),
  (3, 4, 18, 28, 82, 83, 42, 0)]
def am_mk (q : Nat × Nat × Nat × Nat × Nat × Nat × Nat × Nat) : Bool := match q with
  | (kd, o, i, j, p1, p2, p3, p4) => match am_my[j]? with
    | none => false
    | some y => match kd with
      | 0 => am_wd p1 (.methodLink (am_cn o) i y) && am_wd p2 (.instanceMethod y) && am_wd p3 (.selects y.cls y y) && am_wd p4 (.initialized y.cls)
      | 1 => am_wd p1 (.methodLink (am_cn o) i y) && am_wd p2 (.instanceMethod y) && am_wd p3 (.initialized y.cls) && decide (y.name = "<init>")
      | 2 => am_wd p1 (.methodLink (am_cn o) i y) && am_wd p2 (.static y) && am_wd p3 (.initialized y.cls)
      | 3 => decide (lw_tbl[p1]? = some (.methodLinkNest (am_cn o) i y RX4)) && am_wd p2 (.instanceMethod y) && am_wd p3 (.initialized y.cls) && decide (y.name = "<init>")
      | 4 => decide (lw_tbl[p1]? = some (.methodLinkNest (am_cn o) i y RX4)) && am_wd p2 (.static y) && am_wd p3 (.initialized y.cls)
      | 5 => am_wd p1 (.methodLink (am_cn o) i objectInit)
      | 6 => am_wd p1 (.methodLink (am_cn o) i Lib.Math.max.name)
      | 7 => am_wd p1 (.methodLink (am_cn o) i arraycopyName)
      | _ => false
set_option maxRecDepth 20000 in
theorem am_ml_ok : am_ml.all am_mk = true := by decide +kernel
set_option maxRecDepth 20000 in
theorem am_w_obj : Cond.instanceMethod objectInit ∈ am_tb ∧ Cond.code objectInit ⟨#[0xb1]⟩ 1 none ∈ am_tb := ⟨am_wd_ok (p := 54) (by decide +kernel), List.mem_filter.mpr ⟨List.mem_of_getElem? (i := 55) rfl, rfl⟩⟩
set_option maxRecDepth 20000 in
theorem am_w_max : Cond.static Lib.Math.max.name ∈ am_tb ∧ Cond.initialized "java/lang/Math" ∈ am_tb ∧ Cond.code Lib.Math.max.name Lib.Math.max.code 2 (some .int) ∈ am_tb := ⟨am_wd_ok (p := 199) (by decide +kernel), am_wd_ok (p := 46) (by decide +kernel), List.mem_filter.mpr ⟨List.mem_of_getElem? (i := 200) rfl, rfl⟩⟩
set_option maxRecDepth 20000 in
theorem am_w_cpy : Cond.native arraycopyName ∈ am_tb ∧ Cond.static arraycopyName ∈ am_tb ∧ Cond.initialized "java/lang/System" ∈ am_tb := ⟨am_wd_ok (p := 295) (by decide +kernel), am_wd_ok (p := 294) (by decide +kernel), am_wd_ok (p := 47) (by decide +kernel)⟩
set_option maxRecDepth 20000 in
theorem am_w_int : Cond.arrayClass .int ∈ am_tb := am_wd_ok (p := 79) (by decide +kernel)
set_option maxRecDepth 20000 in
theorem am_w_long : Cond.arrayClass .long ∈ am_tb := am_wd_ok (p := 105) (by decide +kernel)
set_option maxRecDepth 20000 in
theorem am_w_boolean : Cond.arrayClass .boolean ∈ am_tb := am_wd_ok (p := 106) (by decide +kernel)
def am_nst : List Cond := [.methodLinkNest RX1 40 yX4_isSlot RX4, .methodLinkNest RX4 18 yX2_init RX4]
theorem am_nst_form : ∀ w ∈ am_nst, ∃ a i x q, w = .methodLinkNest a i x q := by
  intro w hw
  simp only [am_nst, List.mem_cons, List.not_mem_nil, or_false] at hw
  rcases hw with rfl | rfl <;> exact ⟨_, _, _, _, rfl⟩
set_option maxRecDepth 20000 in
theorem am_nst_in : ∀ w ∈ am_nst, w ∈ lw_tbl := by
  intro w hw
  simp only [am_nst, List.mem_cons, List.not_mem_nil, or_false] at hw
  rcases hw with rfl | rfl
  · exact List.mem_of_getElem? (i := 455) (by decide +kernel)
  · exact List.mem_of_getElem? (i := 82) (by decide +kernel)
set_option maxRecDepth 20000 in
theorem am_cw_X0_init : Cond.code yX0_init cX0_init 3 none ∈ am_tb := List.mem_filter.mpr ⟨List.mem_of_getElem? (i := 133) rfl, rfl⟩
set_option maxRecDepth 20000 in
theorem am_cw_X0_toldDropped : Cond.code yX0_toldDropped cX0_toldDropped 1 (some .int) ∈ am_tb := List.mem_filter.mpr ⟨List.mem_of_getElem? (i := 586) rfl, rfl⟩
set_option maxRecDepth 20000 in
theorem am_cw_X0_outLength : Cond.code yX0_outLength cX0_outLength 1 (some .int) ∈ am_tb := List.mem_filter.mpr ⟨List.mem_of_getElem? (i := 590) rfl, rfl⟩
set_option maxRecDepth 20000 in
theorem am_cw_X0_toldAs : Cond.code yX0_toldAs cX0_toldAs 2 (some .long) ∈ am_tb := List.mem_filter.mpr ⟨List.mem_of_getElem? (i := 570) rfl, rfl⟩
set_option maxRecDepth 20000 in
theorem am_cw_X0_dropValue : Cond.code yX0_dropValue cX0_dropValue 4 none ∈ am_tb := List.mem_filter.mpr ⟨List.mem_of_getElem? (i := 392) rfl, rfl⟩
set_option maxRecDepth 20000 in
theorem am_cw_X0_await : Cond.code yX0_await cX0_await 3 none ∈ am_tb := List.mem_filter.mpr ⟨List.mem_of_getElem? (i := 396) rfl, rfl⟩
set_option maxRecDepth 20000 in
theorem am_cw_X0_dropOne : Cond.code yX0_dropOne cX0_dropOne 3 none ∈ am_tb := List.mem_filter.mpr ⟨List.mem_of_getElem? (i := 401) rfl, rfl⟩
set_option maxRecDepth 20000 in
theorem am_cw_X0_tell : Cond.code yX0_tell cX0_tell 3 none ∈ am_tb := List.mem_filter.mpr ⟨List.mem_of_getElem? (i := 407) rfl, rfl⟩
set_option maxRecDepth 20000 in
theorem am_cw_X0_awaitFields : Cond.code yX0_awaitFields cX0_awaitFields 6 none ∈ am_tb := List.mem_filter.mpr ⟨List.mem_of_getElem? (i := 411) rfl, rfl⟩
set_option maxRecDepth 20000 in
theorem am_cw_X0_awaitBoxed : Cond.code yX0_awaitBoxed cX0_awaitBoxed 4 none ∈ am_tb := List.mem_filter.mpr ⟨List.mem_of_getElem? (i := 417) rfl, rfl⟩
set_option maxRecDepth 20000 in
theorem am_cw_X0_awaitElements : Cond.code yX0_awaitElements cX0_awaitElements 5 none ∈ am_tb := List.mem_filter.mpr ⟨List.mem_of_getElem? (i := 423) rfl, rfl⟩
set_option maxRecDepth 20000 in
theorem am_cw_X1_init : Cond.code yX1_init cX1_init 2 none ∈ am_tb := List.mem_filter.mpr ⟨List.mem_of_getElem? (i := 111) rfl, rfl⟩
set_option maxRecDepth 20000 in
theorem am_cw_X1_frameCount : Cond.code yX1_frameCount cX1_frameCount 1 (some .int) ∈ am_tb := List.mem_filter.mpr ⟨List.mem_of_getElem? (i := 530) rfl, rfl⟩
set_option maxRecDepth 20000 in
theorem am_cw_X1_lastFrame : Cond.code yX1_lastFrame cX1_lastFrame 1 (some .int) ∈ am_tb := List.mem_filter.mpr ⟨List.mem_of_getElem? (i := 447) rfl, rfl⟩
set_option maxRecDepth 20000 in
theorem am_cw_X1_addFrame : Cond.code yX1_addFrame cX1_addFrame 1 none ∈ am_tb := List.mem_filter.mpr ⟨List.mem_of_getElem? (i := 534) rfl, rfl⟩
set_option maxRecDepth 20000 in
theorem am_cw_X1_removeFrame : Cond.code yX1_removeFrame cX1_removeFrame 1 none ∈ am_tb := List.mem_filter.mpr ⟨List.mem_of_getElem? (i := 546) rfl, rfl⟩
set_option maxRecDepth 20000 in
theorem am_cw_X1_handCount : Cond.code yX1_handCount cX1_handCount 1 (some .int) ∈ am_tb := List.mem_filter.mpr ⟨List.mem_of_getElem? (i := 254) rfl, rfl⟩
set_option maxRecDepth 20000 in
theorem am_cw_X1_handOfLast : Cond.code yX1_handOfLast cX1_handOfLast 1 (some .int) ∈ am_tb := List.mem_filter.mpr ⟨List.mem_of_getElem? (i := 284) rfl, rfl⟩
set_option maxRecDepth 20000 in
theorem am_cw_X1_handHasRoomFor : Cond.code yX1_handHasRoomFor cX1_handHasRoomFor 2 (some .boolean) ∈ am_tb := List.mem_filter.mpr ⟨List.mem_of_getElem? (i := 242) rfl, rfl⟩
set_option maxRecDepth 20000 in
theorem am_cw_X1_handShape : Cond.code yX1_handShape cX1_handShape 2 (some .int) ∈ am_tb := List.mem_filter.mpr ⟨List.mem_of_getElem? (i := 288) rfl, rfl⟩
set_option maxRecDepth 20000 in
theorem am_cw_X1_topShape : Cond.code yX1_topShape cX1_topShape 1 (some .int) ∈ am_tb := List.mem_filter.mpr ⟨List.mem_of_getElem? (i := 307) rfl, rfl⟩
set_option maxRecDepth 20000 in
theorem am_cw_X1_handEndsWith : Cond.code yX1_handEndsWith cX1_handEndsWith 4 (some .boolean) ∈ am_tb := List.mem_filter.mpr ⟨List.mem_of_getElem? (i := 344) rfl, rfl⟩
set_option maxRecDepth 20000 in
theorem am_cw_X1_layOn : Cond.code yX1_layOn cX1_layOn 2 none ∈ am_tb := List.mem_filter.mpr ⟨List.mem_of_getElem? (i := 246) rfl, rfl⟩
set_option maxRecDepth 20000 in
theorem am_cw_X1_takeOff : Cond.code yX1_takeOff cX1_takeOff 2 none ∈ am_tb := List.mem_filter.mpr ⟨List.mem_of_getElem? (i := 299) rfl, rfl⟩
set_option maxRecDepth 20000 in
theorem am_cw_X1_slotShape : Cond.code yX1_slotShape cX1_slotShape 3 (some .int) ∈ am_tb := List.mem_filter.mpr ⟨List.mem_of_getElem? (i := 451) rfl, rfl⟩
set_option maxRecDepth 20000 in
theorem am_cw_X1_fillSlot : Cond.code yX1_fillSlot cX1_fillSlot 4 none ∈ am_tb := List.mem_filter.mpr ⟨List.mem_of_getElem? (i := 462) rfl, rfl⟩
set_option maxRecDepth 20000 in
theorem am_cw_X1_hasSlot : Cond.code yX1_hasSlot cX1_hasSlot 2 (some .boolean) ∈ am_tb := List.mem_filter.mpr ⟨List.mem_of_getElem? (i := 454) rfl, rfl⟩
set_option maxRecDepth 20000 in
theorem am_cw_X1_filledSlots : Cond.code yX1_filledSlots cX1_filledSlots 3 (some .int) ∈ am_tb := List.mem_filter.mpr ⟨List.mem_of_getElem? (i := 582) rfl, rfl⟩
set_option maxRecDepth 20000 in
theorem am_cw_X2_init : Cond.code yX2_init cX2_init 1 none ∈ am_tb := List.mem_filter.mpr ⟨List.mem_of_getElem? (i := 84) rfl, rfl⟩
set_option maxRecDepth 20000 in
theorem am_cw_X2_read : Cond.code yX2_read cX2_read 2 (some .long) ∈ am_tb := List.mem_filter.mpr ⟨List.mem_of_getElem? (i := 368) rfl, rfl⟩
set_option maxRecDepth 20000 in
theorem am_cw_X2_write : Cond.code yX2_write cX2_write 4 none ∈ am_tb := List.mem_filter.mpr ⟨List.mem_of_getElem? (i := 261) rfl, rfl⟩
set_option maxRecDepth 20000 in
theorem am_cw_X2_moveCells : Cond.code yX2_moveCells cX2_moveCells 4 none ∈ am_tb := List.mem_filter.mpr ⟨List.mem_of_getElem? (i := 292) rfl, rfl⟩
set_option maxRecDepth 20000 in
theorem am_cw_X2_swapCells : Cond.code yX2_swapCells cX2_swapCells 7 none ∈ am_tb := List.mem_filter.mpr ⟨List.mem_of_getElem? (i := 510) rfl, rfl⟩
set_option maxRecDepth 20000 in
theorem am_cw_X2_areCells : Cond.code yX2_areCells cX2_areCells 2 (some .boolean) ∈ am_tb := List.mem_filter.mpr ⟨List.mem_of_getElem? (i := 264) rfl, rfl⟩
set_option maxRecDepth 20000 in
theorem am_cw_X2_boxesThere : Cond.code yX2_boxesThere cX2_boxesThere 1 (some .int) ∈ am_tb := List.mem_filter.mpr ⟨List.mem_of_getElem? (i := 321) rfl, rfl⟩
set_option maxRecDepth 20000 in
theorem am_cw_X2_rowsThere : Cond.code yX2_rowsThere cX2_rowsThere 1 (some .int) ∈ am_tb := List.mem_filter.mpr ⟨List.mem_of_getElem? (i := 348) rfl, rfl⟩
set_option maxRecDepth 20000 in
theorem am_cw_X2_takeBox : Cond.code yX2_takeBox cX2_takeBox 2 (some .int) ∈ am_tb := List.mem_filter.mpr ⟨List.mem_of_getElem? (i := 325) rfl, rfl⟩
set_option maxRecDepth 20000 in
theorem am_cw_X2_takeRow : Cond.code yX2_takeRow cX2_takeRow 3 (some .int) ∈ am_tb := List.mem_filter.mpr ⟨List.mem_of_getElem? (i := 352) rfl, rfl⟩
set_option maxRecDepth 20000 in
theorem am_cw_X2_firstFree : Cond.code yX2_firstFree cX2_firstFree 2 (some .int) ∈ am_tb := List.mem_filter.mpr ⟨List.mem_of_getElem? (i := 328) rfl, rfl⟩
set_option maxRecDepth 20000 in
theorem am_cw_X2_freeBox : Cond.code yX2_freeBox cX2_freeBox 3 none ∈ am_tb := List.mem_filter.mpr ⟨List.mem_of_getElem? (i := 372) rfl, rfl⟩
set_option maxRecDepth 20000 in
theorem am_cw_X2_freeRow : Cond.code yX2_freeRow cX2_freeRow 3 none ∈ am_tb := List.mem_filter.mpr ⟨List.mem_of_getElem? (i := 427) rfl, rfl⟩
set_option maxRecDepth 20000 in
theorem am_cw_X2_isBox : Cond.code yX2_isBox cX2_isBox 2 (some .boolean) ∈ am_tb := List.mem_filter.mpr ⟨List.mem_of_getElem? (i := 335) rfl, rfl⟩
set_option maxRecDepth 20000 in
theorem am_cw_X2_isRow : Cond.code yX2_isRow cX2_isRow 2 (some .boolean) ∈ am_tb := List.mem_filter.mpr ⟨List.mem_of_getElem? (i := 359) rfl, rfl⟩
set_option maxRecDepth 20000 in
theorem am_cw_X2_boxAt : Cond.code yX2_boxAt cX2_boxAt 3 (some .int) ∈ am_tb := List.mem_filter.mpr ⟨List.mem_of_getElem? (i := 332) rfl, rfl⟩
set_option maxRecDepth 20000 in
theorem am_cw_X2_rowAt : Cond.code yX2_rowAt cX2_rowAt 3 (some .int) ∈ am_tb := List.mem_filter.mpr ⟨List.mem_of_getElem? (i := 356) rfl, rfl⟩
set_option maxRecDepth 20000 in
theorem am_cw_X2_elementAt : Cond.code yX2_elementAt cX2_elementAt 4 (some .int) ∈ am_tb := List.mem_filter.mpr ⟨List.mem_of_getElem? (i := 435) rfl, rfl⟩
set_option maxRecDepth 20000 in
theorem am_cw_X2_lengthOf : Cond.code yX2_lengthOf cX2_lengthOf 3 (some .int) ∈ am_tb := List.mem_filter.mpr ⟨List.mem_of_getElem? (i := 431) rfl, rfl⟩
set_option maxRecDepth 20000 in
theorem am_cw_X2_setLength : Cond.code yX2_setLength cX2_setLength 4 none ∈ am_tb := List.mem_filter.mpr ⟨List.mem_of_getElem? (i := 518) rfl, rfl⟩
set_option maxRecDepth 20000 in
theorem am_cw_X3_init : Cond.code yX3_init cX3_init 1 none ∈ am_tb := List.mem_filter.mpr ⟨List.mem_of_getElem? (i := 60) rfl, rfl⟩
set_option maxRecDepth 20000 in
theorem am_cw_X3_add : Cond.code yX3_add cX3_add 6 (some .int) ∈ am_tb := List.mem_filter.mpr ⟨List.mem_of_getElem? (i := 65) rfl, rfl⟩
set_option maxRecDepth 20000 in
theorem am_cw_X3_tieLooseBox : Cond.code yX3_tieLooseBox cX3_tieLooseBox 3 (some .boolean) ∈ am_tb := List.mem_filter.mpr ⟨List.mem_of_getElem? (i := 212) rfl, rfl⟩
set_option maxRecDepth 20000 in
theorem am_cw_X3_howMany : Cond.code yX3_howMany cX3_howMany 1 (some .int) ∈ am_tb := List.mem_filter.mpr ⟨List.mem_of_getElem? (i := 578) rfl, rfl⟩
set_option maxRecDepth 20000 in
theorem am_cw_X3_has : Cond.code yX3_has cX3_has 2 (some .boolean) ∈ am_tb := List.mem_filter.mpr ⟨List.mem_of_getElem? (i := 183) rfl, rfl⟩
set_option maxRecDepth 20000 in
theorem am_cw_X3_hasOrNone : Cond.code yX3_hasOrNone cX3_hasOrNone 2 (some .boolean) ∈ am_tb := List.mem_filter.mpr ⟨List.mem_of_getElem? (i := 187) rfl, rfl⟩
set_option maxRecDepth 20000 in
theorem am_cw_X3_kindOf : Cond.code yX3_kindOf cX3_kindOf 2 (some .int) ∈ am_tb := List.mem_filter.mpr ⟨List.mem_of_getElem? (i := 216) rfl, rfl⟩
set_option maxRecDepth 20000 in
theorem am_cw_X3_sizeOf : Cond.code yX3_sizeOf cX3_sizeOf 2 (some .int) ∈ am_tb := List.mem_filter.mpr ⟨List.mem_of_getElem? (i := 192) rfl, rfl⟩
set_option maxRecDepth 20000 in
theorem am_cw_X3_partOf : Cond.code yX3_partOf cX3_partOf 3 (some .int) ∈ am_tb := List.mem_filter.mpr ⟨List.mem_of_getElem? (i := 220) rfl, rfl⟩
set_option maxRecDepth 20000 in
theorem am_cw_X3_partsOf : Cond.code yX3_partsOf cX3_partsOf 4 (some .int) ∈ am_tb := List.mem_filter.mpr ⟨List.mem_of_getElem? (i := 276) rfl, rfl⟩
set_option maxRecDepth 20000 in
theorem am_cw_X3_offsetOf : Cond.code yX3_offsetOf cX3_offsetOf 5 (some .int) ∈ am_tb := List.mem_filter.mpr ⟨List.mem_of_getElem? (i := 487) rfl, rfl⟩
set_option maxRecDepth 20000 in
theorem am_cw_X4_init : Cond.code yX4_init cX4_init 1 none ∈ am_tb := List.mem_filter.mpr ⟨List.mem_of_getElem? (i := 52) rfl, rfl⟩
set_option maxRecDepth 20000 in
theorem am_cw_X4_record : Cond.code yX4_record cX4_record 6 (some .int) ∈ am_tb := List.mem_filter.mpr ⟨List.mem_of_getElem? (i := 179) rfl, rfl⟩
set_option maxRecDepth 20000 in
theorem am_cw_X4_choice : Cond.code yX4_choice cX4_choice 5 (some .int) ∈ am_tb := List.mem_filter.mpr ⟨List.mem_of_getElem? (i := 197) rfl, rfl⟩
set_option maxRecDepth 20000 in
theorem am_cw_X4_box : Cond.code yX4_box cX4_box 2 (some .int) ∈ am_tb := List.mem_filter.mpr ⟨List.mem_of_getElem? (i := 204) rfl, rfl⟩
set_option maxRecDepth 20000 in
theorem am_cw_X4_tie : Cond.code yX4_tie cX4_tie 3 (some .int) ∈ am_tb := List.mem_filter.mpr ⟨List.mem_of_getElem? (i := 208) rfl, rfl⟩
set_option maxRecDepth 20000 in
theorem am_cw_X4_row : Cond.code yX4_row cX4_row 2 (some .int) ∈ am_tb := List.mem_filter.mpr ⟨List.mem_of_getElem? (i := 224) rfl, rfl⟩
set_option maxRecDepth 20000 in
theorem am_cw_X4_about : Cond.code yX4_about cX4_about 3 (some .int) ∈ am_tb := List.mem_filter.mpr ⟨List.mem_of_getElem? (i := 228) rfl, rfl⟩
set_option maxRecDepth 20000 in
theorem am_cw_X4_number : Cond.code yX4_number cX4_number 3 (some .int) ∈ am_tb := List.mem_filter.mpr ⟨List.mem_of_getElem? (i := 234) rfl, rfl⟩
set_option maxRecDepth 20000 in
theorem am_cw_X4_make : Cond.code yX4_make cX4_make 3 (some .int) ∈ am_tb := List.mem_filter.mpr ⟨List.mem_of_getElem? (i := 268) rfl, rfl⟩
set_option maxRecDepth 20000 in
theorem am_cw_X4_gather : Cond.code yX4_gather cX4_gather 5 (some .int) ∈ am_tb := List.mem_filter.mpr ⟨List.mem_of_getElem? (i := 340) rfl, rfl⟩
set_option maxRecDepth 20000 in
theorem am_cw_X4_open : Cond.code yX4_open cX4_open 5 (some .int) ∈ am_tb := List.mem_filter.mpr ⟨List.mem_of_getElem? (i := 364) rfl, rfl⟩
set_option maxRecDepth 20000 in
theorem am_cw_X4_apart : Cond.code yX4_apart cX4_apart 2 (some .int) ∈ am_tb := List.mem_filter.mpr ⟨List.mem_of_getElem? (i := 376) rfl, rfl⟩
set_option maxRecDepth 20000 in
theorem am_cw_X4_drop : Cond.code yX4_drop cX4_drop 2 (some .int) ∈ am_tb := List.mem_filter.mpr ⟨List.mem_of_getElem? (i := 388) rfl, rfl⟩
set_option maxRecDepth 20000 in
theorem am_cw_X4_store : Cond.code yX4_store cX4_store 4 (some .int) ∈ am_tb := List.mem_filter.mpr ⟨List.mem_of_getElem? (i := 440) rfl, rfl⟩
set_option maxRecDepth 20000 in
theorem am_cw_X4_load : Cond.code yX4_load cX4_load 4 (some .int) ∈ am_tb := List.mem_filter.mpr ⟨List.mem_of_getElem? (i := 466) rfl, rfl⟩
set_option maxRecDepth 20000 in
theorem am_cw_X4_set : Cond.code yX4_set cX4_set 4 (some .int) ∈ am_tb := List.mem_filter.mpr ⟨List.mem_of_getElem? (i := 470) rfl, rfl⟩
set_option maxRecDepth 20000 in
theorem am_cw_X4_swap : Cond.code yX4_swap cX4_swap 4 (some .int) ∈ am_tb := List.mem_filter.mpr ⟨List.mem_of_getElem? (i := 506) rfl, rfl⟩
set_option maxRecDepth 20000 in
theorem am_cw_X4_push : Cond.code yX4_push cX4_push 8 (some .int) ∈ am_tb := List.mem_filter.mpr ⟨List.mem_of_getElem? (i := 514) rfl, rfl⟩
set_option maxRecDepth 20000 in
theorem am_cw_X4_pop : Cond.code yX4_pop cX4_pop 8 (some .int) ∈ am_tb := List.mem_filter.mpr ⟨List.mem_of_getElem? (i := 522) rfl, rfl⟩
set_option maxRecDepth 20000 in
theorem am_cw_X4_enter : Cond.code yX4_enter cX4_enter 6 (some .int) ∈ am_tb := List.mem_filter.mpr ⟨List.mem_of_getElem? (i := 526) rfl, rfl⟩
set_option maxRecDepth 20000 in
theorem am_cw_X4_leave : Cond.code yX4_leave cX4_leave 4 (some .int) ∈ am_tb := List.mem_filter.mpr ⟨List.mem_of_getElem? (i := 538) rfl, rfl⟩
set_option maxRecDepth 20000 in
theorem am_cw_X4_fail : Cond.code yX4_fail cX4_fail 3 (some .int) ∈ am_tb := List.mem_filter.mpr ⟨List.mem_of_getElem? (i := 550) rfl, rfl⟩
set_option maxRecDepth 20000 in
theorem am_cw_X4_shape : Cond.code yX4_shape cX4_shape 3 (some .int) ∈ am_tb := List.mem_filter.mpr ⟨List.mem_of_getElem? (i := 554) rfl, rfl⟩
set_option maxRecDepth 20000 in
theorem am_cw_X4_look : Cond.code yX4_look cX4_look 3 (some .long) ∈ am_tb := List.mem_filter.mpr ⟨List.mem_of_getElem? (i := 558) rfl, rfl⟩
set_option maxRecDepth 20000 in
theorem am_cw_X4_state : Cond.code yX4_state cX4_state 3 (some .int) ∈ am_tb := List.mem_filter.mpr ⟨List.mem_of_getElem? (i := 562) rfl, rfl⟩
set_option maxRecDepth 20000 in
theorem am_cw_X4_out : Cond.code yX4_out cX4_out 2 (some .long) ∈ am_tb := List.mem_filter.mpr ⟨List.mem_of_getElem? (i := 566) rfl, rfl⟩
set_option maxRecDepth 20000 in
theorem am_cw_X4_count : Cond.code yX4_count cX4_count 2 (some .int) ∈ am_tb := List.mem_filter.mpr ⟨List.mem_of_getElem? (i := 574) rfl, rfl⟩
set_option maxRecDepth 20000 in
theorem am_cw_X4_layOneCell : Cond.code yX4_layOneCell cX4_layOneCell 4 (some .int) ∈ am_tb := List.mem_filter.mpr ⟨List.mem_of_getElem? (i := 238) rfl, rfl⟩
set_option maxRecDepth 20000 in
theorem am_cw_X4_makeRecord : Cond.code yX4_makeRecord cX4_makeRecord 7 (some .int) ∈ am_tb := List.mem_filter.mpr ⟨List.mem_of_getElem? (i := 272) rfl, rfl⟩
set_option maxRecDepth 20000 in
theorem am_cw_X4_handEndsWithFieldsOf : Cond.code yX4_handEndsWithFieldsOf cX4_handEndsWithFieldsOf 5 (some .boolean) ∈ am_tb := List.mem_filter.mpr ⟨List.mem_of_getElem? (i := 280) rfl, rfl⟩
set_option maxRecDepth 20000 in
theorem am_cw_X4_makeChoice : Cond.code yX4_makeChoice cX4_makeChoice 4 (some .int) ∈ am_tb := List.mem_filter.mpr ⟨List.mem_of_getElem? (i := 303) rfl, rfl⟩
set_option maxRecDepth 20000 in
theorem am_cw_X4_makeBox : Cond.code yX4_makeBox cX4_makeBox 4 (some .int) ∈ am_tb := List.mem_filter.mpr ⟨List.mem_of_getElem? (i := 317) rfl, rfl⟩
set_option maxRecDepth 20000 in
theorem am_cw_X4_takeRecordApart : Cond.code yX4_takeRecordApart cX4_takeRecordApart 7 (some .int) ∈ am_tb := List.mem_filter.mpr ⟨List.mem_of_getElem? (i := 380) rfl, rfl⟩
set_option maxRecDepth 20000 in
theorem am_cw_X4_takeChoiceApart : Cond.code yX4_takeChoiceApart cX4_takeChoiceApart 3 (some .int) ∈ am_tb := List.mem_filter.mpr ⟨List.mem_of_getElem? (i := 384) rfl, rfl⟩
set_option maxRecDepth 20000 in
theorem am_cw_X4_replaceTopShape : Cond.code yX4_replaceTopShape cX4_replaceTopShape 2 none ∈ am_tb := List.mem_filter.mpr ⟨List.mem_of_getElem? (i := 313) rfl, rfl⟩
set_option maxRecDepth 20000 in
theorem am_cw_X4_handAt : Cond.code yX4_handAt cX4_handAt 1 (some .int) ∈ am_tb := List.mem_filter.mpr ⟨List.mem_of_getElem? (i := 257) rfl, rfl⟩
set_option maxRecDepth 20000 in
theorem am_cw_X4_slotAt : Cond.code yX4_slotAt cX4_slotAt 2 (some .int) ∈ am_tb := List.mem_filter.mpr ⟨List.mem_of_getElem? (i := 458) rfl, rfl⟩
set_option maxRecDepth 20000 in
theorem am_cw_X4_isSlot : Cond.code yX4_isSlot cX4_isSlot 1 (some .boolean) ∈ am_tb := List.mem_filter.mpr ⟨List.mem_of_getElem? (i := 443) rfl, rfl⟩
set_option maxRecDepth 20000 in
theorem am_cw_X4_topAt : Cond.code yX4_topAt cX4_topAt 1 (some .int) ∈ am_tb := List.mem_filter.mpr ⟨List.mem_of_getElem? (i := 250) rfl, rfl⟩
set_option maxRecDepth 20000 in
theorem am_cw_X4_seek : Cond.code yX4_seek cX4_seek 6 (some .int) ∈ am_tb := List.mem_filter.mpr ⟨List.mem_of_getElem? (i := 474) rfl, rfl⟩
set_option maxRecDepth 20000 in
theorem am_cw_X4_step : Cond.code yX4_step cX4_step 3 (some .int) ∈ am_tb := List.mem_filter.mpr ⟨List.mem_of_getElem? (i := 479) rfl, rfl⟩
set_option maxRecDepth 20000 in
theorem am_cw_X4_stepToField : Cond.code yX4_stepToField cX4_stepToField 3 (some .int) ∈ am_tb := List.mem_filter.mpr ⟨List.mem_of_getElem? (i := 483) rfl, rfl⟩
set_option maxRecDepth 20000 in
theorem am_cw_X4_stepToPart : Cond.code yX4_stepToPart cX4_stepToPart 3 (some .int) ∈ am_tb := List.mem_filter.mpr ⟨List.mem_of_getElem? (i := 492) rfl, rfl⟩
set_option maxRecDepth 20000 in
theorem am_cw_X4_stepIntoBox : Cond.code yX4_stepIntoBox cX4_stepIntoBox 2 (some .int) ∈ am_tb := List.mem_filter.mpr ⟨List.mem_of_getElem? (i := 496) rfl, rfl⟩
set_option maxRecDepth 20000 in
theorem am_cw_X4_stepToElement : Cond.code yX4_stepToElement cX4_stepToElement 5 (some .int) ∈ am_tb := List.mem_filter.mpr ⟨List.mem_of_getElem? (i := 500) rfl, rfl⟩
set_option maxRecDepth 20000 in
theorem am_cw_X4_endLastFrame : Cond.code yX4_endLastFrame cX4_endLastFrame 5 none ∈ am_tb := List.mem_filter.mpr ⟨List.mem_of_getElem? (i := 542) rfl, rfl⟩
set_option maxRecDepth 20000 in
theorem am_cw_X5_init : Cond.code yX5_init cX5_init 2 none ∈ am_tb := List.mem_filter.mpr ⟨List.mem_of_getElem? (i := 595) rfl, rfl⟩
set_option maxRecDepth 20000 in
theorem am_cw_X5_in : Cond.code yX5_in cX5_in 3 (some .boolean) ∈ am_tb := List.mem_filter.mpr ⟨List.mem_of_getElem? (i := 677) rfl, rfl⟩
set_option maxRecDepth 20000 in
theorem am_cw_X5_isShape : Cond.code yX5_isShape cX5_isShape 2 (some .boolean) ∈ am_tb := List.mem_filter.mpr ⟨List.mem_of_getElem? (i := 674) rfl, rfl⟩
set_option maxRecDepth 20000 in
theorem am_cw_X5_come : Cond.code yX5_come cX5_come 6 (some .int) ∈ am_tb := List.mem_filter.mpr ⟨List.mem_of_getElem? (i := 685) rfl, rfl⟩
set_option maxRecDepth 20000 in
theorem am_cw_X5_sizeOf : Cond.code yX5_sizeOf cX5_sizeOf 2 (some .int) ∈ am_tb := List.mem_filter.mpr ⟨List.mem_of_getElem? (i := 681) rfl, rfl⟩
set_option maxRecDepth 20000 in
theorem am_cw_X5_record : Cond.code yX5_record cX5_record 5 (some .int) ∈ am_tb := List.mem_filter.mpr ⟨List.mem_of_getElem? (i := 670) rfl, rfl⟩
set_option maxRecDepth 20000 in
theorem am_cw_X5_choice : Cond.code yX5_choice cX5_choice 4 (some .int) ∈ am_tb := List.mem_filter.mpr ⟨List.mem_of_getElem? (i := 689) rfl, rfl⟩
set_option maxRecDepth 20000 in
theorem am_cw_X5_box : Cond.code yX5_box cX5_box 2 (some .int) ∈ am_tb := List.mem_filter.mpr ⟨List.mem_of_getElem? (i := 694) rfl, rfl⟩
set_option maxRecDepth 20000 in
theorem am_cw_X5_tie : Cond.code yX5_tie cX5_tie 3 (some .int) ∈ am_tb := List.mem_filter.mpr ⟨List.mem_of_getElem? (i := 698) rfl, rfl⟩
set_option maxRecDepth 20000 in
theorem am_cw_X5_row : Cond.code yX5_row cX5_row 2 (some .int) ∈ am_tb := List.mem_filter.mpr ⟨List.mem_of_getElem? (i := 702) rfl, rfl⟩
set_option maxRecDepth 20000 in
theorem am_cw_X5_about : Cond.code yX5_about cX5_about 3 (some .int) ∈ am_tb := List.mem_filter.mpr ⟨List.mem_of_getElem? (i := 706) rfl, rfl⟩
set_option maxRecDepth 20000 in
theorem am_cw_X5_node : Cond.code yX5_node cX5_node 6 (some .int) ∈ am_tb := List.mem_filter.mpr ⟨List.mem_of_getElem? (i := 714) rfl, rfl⟩
set_option maxRecDepth 20000 in
theorem am_cw_X5_grow : Cond.code yX5_grow cX5_grow 6 none ∈ am_tb := List.mem_filter.mpr ⟨List.mem_of_getElem? (i := 718) rfl, rfl⟩
set_option maxRecDepth 20000 in
theorem am_cw_X5_free : Cond.code yX5_free cX5_free 2 none ∈ am_tb := List.mem_filter.mpr ⟨List.mem_of_getElem? (i := 758) rfl, rfl⟩
set_option maxRecDepth 20000 in
theorem am_cw_X5_kindOf : Cond.code yX5_kindOf cX5_kindOf 2 (some .int) ∈ am_tb := List.mem_filter.mpr ⟨List.mem_of_getElem? (i := 754) rfl, rfl⟩
set_option maxRecDepth 20000 in
theorem am_cw_X5_dropped : Cond.code yX5_dropped cX5_dropped 4 none ∈ am_tb := List.mem_filter.mpr ⟨List.mem_of_getElem? (i := 770) rfl, rfl⟩
set_option maxRecDepth 20000 in
theorem am_cw_X5_mine : Cond.code yX5_mine cX5_mine 1 (some .int) ∈ am_tb := List.mem_filter.mpr ⟨List.mem_of_getElem? (i := 734) rfl, rfl⟩
set_option maxRecDepth 20000 in
theorem am_cw_X5_top : Cond.code yX5_top cX5_top 2 (some .int) ∈ am_tb := List.mem_filter.mpr ⟨List.mem_of_getElem? (i := 738) rfl, rfl⟩
set_option maxRecDepth 20000 in
theorem am_cw_X5_slot : Cond.code yX5_slot cX5_slot 2 (some .int) ∈ am_tb := List.mem_filter.mpr ⟨List.mem_of_getElem? (i := 778) rfl, rfl⟩
set_option maxRecDepth 20000 in
theorem am_cw_X5_find : Cond.code yX5_find cX5_find 8 (some .int) ∈ am_tb := List.mem_filter.mpr ⟨List.mem_of_getElem? (i := 790) rfl, rfl⟩
set_option maxRecDepth 20000 in
theorem am_cw_X5_put : Cond.code yX5_put cX5_put 2 none ∈ am_tb := List.mem_filter.mpr ⟨List.mem_of_getElem? (i := 795) rfl, rfl⟩
set_option maxRecDepth 20000 in
theorem am_cw_X5_comes : Cond.code yX5_comes cX5_comes 2 (some .int) ∈ am_tb := List.mem_filter.mpr ⟨List.mem_of_getElem? (i := 722) rfl, rfl⟩
set_option maxRecDepth 20000 in
theorem am_cw_X5_number : Cond.code yX5_number cX5_number 3 (some .int) ∈ am_tb := List.mem_filter.mpr ⟨List.mem_of_getElem? (i := 710) rfl, rfl⟩
set_option maxRecDepth 20000 in
theorem am_cw_X5_parts : Cond.code yX5_parts cX5_parts 3 (some .int) ∈ am_tb := List.mem_filter.mpr ⟨List.mem_of_getElem? (i := 730) rfl, rfl⟩
set_option maxRecDepth 20000 in
theorem am_cw_X5_wrap : Cond.code yX5_wrap cX5_wrap 7 (some .int) ∈ am_tb := List.mem_filter.mpr ⟨List.mem_of_getElem? (i := 742) rfl, rfl⟩
set_option maxRecDepth 20000 in
theorem am_cw_X5_make : Cond.code yX5_make cX5_make 5 (some .int) ∈ am_tb := List.mem_filter.mpr ⟨List.mem_of_getElem? (i := 726) rfl, rfl⟩
set_option maxRecDepth 20000 in
theorem am_cw_X5_gather : Cond.code yX5_gather cX5_gather 4 (some .int) ∈ am_tb := List.mem_filter.mpr ⟨List.mem_of_getElem? (i := 746) rfl, rfl⟩
set_option maxRecDepth 20000 in
theorem am_cw_X5_open : Cond.code yX5_open cX5_open 2 (some .int) ∈ am_tb := List.mem_filter.mpr ⟨List.mem_of_getElem? (i := 750) rfl, rfl⟩
set_option maxRecDepth 20000 in
theorem am_cw_X5_apart : Cond.code yX5_apart cX5_apart 4 (some .int) ∈ am_tb := List.mem_filter.mpr ⟨List.mem_of_getElem? (i := 762) rfl, rfl⟩
set_option maxRecDepth 20000 in
theorem am_cw_X5_drop : Cond.code yX5_drop cX5_drop 1 (some .int) ∈ am_tb := List.mem_filter.mpr ⟨List.mem_of_getElem? (i := 766) rfl, rfl⟩
set_option maxRecDepth 20000 in
theorem am_cw_X5_store : Cond.code yX5_store cX5_store 2 (some .int) ∈ am_tb := List.mem_filter.mpr ⟨List.mem_of_getElem? (i := 774) rfl, rfl⟩
set_option maxRecDepth 20000 in
theorem am_cw_X5_load : Cond.code yX5_load cX5_load 3 (some .int) ∈ am_tb := List.mem_filter.mpr ⟨List.mem_of_getElem? (i := 782) rfl, rfl⟩
set_option maxRecDepth 20000 in
theorem am_cw_X5_set : Cond.code yX5_set cX5_set 4 (some .int) ∈ am_tb := List.mem_filter.mpr ⟨List.mem_of_getElem? (i := 786) rfl, rfl⟩
set_option maxRecDepth 20000 in
theorem am_cw_X5_swap : Cond.code yX5_swap cX5_swap 4 (some .int) ∈ am_tb := List.mem_filter.mpr ⟨List.mem_of_getElem? (i := 799) rfl, rfl⟩
set_option maxRecDepth 20000 in
theorem am_cw_X5_push : Cond.code yX5_push cX5_push 4 (some .int) ∈ am_tb := List.mem_filter.mpr ⟨List.mem_of_getElem? (i := 803) rfl, rfl⟩
set_option maxRecDepth 20000 in
theorem am_cw_X5_pop : Cond.code yX5_pop cX5_pop 6 (some .int) ∈ am_tb := List.mem_filter.mpr ⟨List.mem_of_getElem? (i := 808) rfl, rfl⟩
set_option maxRecDepth 20000 in
theorem am_cw_X5_enter : Cond.code yX5_enter cX5_enter 3 (some .int) ∈ am_tb := List.mem_filter.mpr ⟨List.mem_of_getElem? (i := 812) rfl, rfl⟩
set_option maxRecDepth 20000 in
theorem am_cw_X5_empty : Cond.code yX5_empty cX5_empty 2 none ∈ am_tb := List.mem_filter.mpr ⟨List.mem_of_getElem? (i := 820) rfl, rfl⟩
set_option maxRecDepth 20000 in
theorem am_cw_X5_leave : Cond.code yX5_leave cX5_leave 4 (some .int) ∈ am_tb := List.mem_filter.mpr ⟨List.mem_of_getElem? (i := 816) rfl, rfl⟩
set_option maxRecDepth 20000 in
theorem am_cw_X5_fail : Cond.code yX5_fail cX5_fail 2 (some .int) ∈ am_tb := List.mem_filter.mpr ⟨List.mem_of_getElem? (i := 824) rfl, rfl⟩
set_option maxRecDepth 20000 in
theorem am_cw_X5_shape : Cond.code yX5_shape cX5_shape 4 (some .int) ∈ am_tb := List.mem_filter.mpr ⟨List.mem_of_getElem? (i := 828) rfl, rfl⟩
set_option maxRecDepth 20000 in
theorem am_cw_X5_look : Cond.code yX5_look cX5_look 4 (some .long) ∈ am_tb := List.mem_filter.mpr ⟨List.mem_of_getElem? (i := 832) rfl, rfl⟩
set_option maxRecDepth 20000 in
theorem am_cw_X5_state : Cond.code yX5_state cX5_state 4 (some .int) ∈ am_tb := List.mem_filter.mpr ⟨List.mem_of_getElem? (i := 836) rfl, rfl⟩
set_option maxRecDepth 20000 in
theorem am_cw_X5_out : Cond.code yX5_out cX5_out 2 (some .long) ∈ am_tb := List.mem_filter.mpr ⟨List.mem_of_getElem? (i := 840) rfl, rfl⟩
set_option maxRecDepth 20000 in
theorem am_cw_X5_count : Cond.code yX5_count cX5_count 4 (some .int) ∈ am_tb := List.mem_filter.mpr ⟨List.mem_of_getElem? (i := 844) rfl, rfl⟩
end
section
/-! An abstract machine over the claim's bytecode: places instead of addresses, lists instead of frames. Its runs are functions; part 03 shows that the machine does what they say. -/
/-- a place holds an array (its element type, its contents) or an object (its class, its fields) -/
abbrev am_E : Type := (FieldType × vp_A) ⊕ (Nat × List Value)
/-- places made so far, their fields and elements, what they hold (place 0: the script) -/
abbrev am_H : Type := Nat × Nat × (Nat → Option am_E)
/-- an instruction: pc, the instruction, two numbers, a value, a switch's pairs -/
abbrev am_I : Type := Nat × Instr × Nat × Nat × Value × List (Int32 × Nat)
abbrev am_L : Type := List (Option Value)
abbrev am_S : Type := List am_I × am_L × List Value × am_H
abbrev am_R : Type := Option Value × am_H
abbrev am_F : Type := Nat → List Value → am_H → Option am_R
def am_up (h : am_H) (r : Nat) (e : am_E) : am_H := (h.1, h.2.1, fun k => if k = r then some e else h.2.2 k)
def am_nw (h : am_H) (n : Nat) (e : am_E) : am_H := (h.1 + 1, h.2.1 + n, fun k => if k = h.1 + 1 then some e else h.2.2 k)
def am_gf (h : am_H) (r c k : Nat) : Option Value := match h.2.2 r with
  | some (.inr (c', fs)) => if c' = c then fs[k]? else none
  | _ => none
def am_pf (h : am_H) (r c k : Nat) (v : Value) : Option am_H := match h.2.2 r with
  | some (.inr (c', fs)) => if c' = c ∧ k < fs.length then some (am_up h r (.inr (c', fs.set k v))) else none
  | _ => none
def am_gi (h : am_H) (r : Nat) (i : Int32) : Option Int32 := match h.2.2 r with
  | some (.inl (.int, n, .inl f)) => if i < 0 ∨ n ≤ i.toNatClampNeg then none else some (f i.toNatClampNeg)
  | _ => none
def am_gz (h : am_H) (r : Nat) (i : Int32) : Option Int32 := match h.2.2 r with
  | some (.inl (.boolean, n, .inl f)) => if i < 0 ∨ n ≤ i.toNatClampNeg then none else some (f i.toNatClampNeg)
  | _ => none
def am_gl (h : am_H) (r : Nat) (i : Int32) : Option Int64 := match h.2.2 r with
  | some (.inl (.long, n, .inr (.inl f))) => if i < 0 ∨ n ≤ i.toNatClampNeg then none else some (f i.toNatClampNeg)
  | _ => none
def am_pi (h : am_H) (r : Nat) (i x : Int32) : Option am_H := match h.2.2 r with
  | some (.inl (.int, n, .inl f)) => if r = 0 ∨ i < 0 ∨ n ≤ i.toNatClampNeg then none else some (am_up h r (.inl (.int, n, .inl (upd f i.toNatClampNeg x))))
  | _ => none
def am_pz (h : am_H) (r : Nat) (i x : Int32) : Option am_H := match h.2.2 r with
  | some (.inl (.boolean, n, .inl f)) => if (r = 0 ∨ i < 0 ∨ n ≤ i.toNatClampNeg) ∨ ¬ (x = 0 ∨ x = 1) then none else some (am_up h r (.inl (.boolean, n, .inl (upd f i.toNatClampNeg x))))
  | _ => none
def am_pl (h : am_H) (r : Nat) (i : Int32) (x : Int64) : Option am_H := match h.2.2 r with
  | some (.inl (.long, n, .inr (.inl f))) => if r = 0 ∨ i < 0 ∨ n ≤ i.toNatClampNeg then none else some (am_up h r (.inl (.long, n, .inr (.inl (vp_updL f i.toNatClampNeg x)))))
  | _ => none
/-- System.arraycopy inside one array of longs -/
def am_cy (h : am_H) (r : Nat) (sp dp n : Int32) : Option am_H := match h.2.2 r with
  | some (.inl (.long, k, .inr (.inl f))) => if r = 0 ∨ sp < 0 ∨ dp < 0 ∨ n < 0 ∨ k < sp.toNatClampNeg + n.toNatClampNeg ∨ k < dp.toNatClampNeg + n.toNatClampNeg then none else some (am_up h r (.inl (.long, k, .inr (.inl (va_cpy f f sp.toNatClampNeg dp.toNatClampNeg n.toNatClampNeg)))))
  | _ => none
def am_ln (h : am_H) (r : Nat) : Option Nat := match h.2.2 r with
  | some (.inl (.int, n, .inl _)) => some n
  | some (.inl (.boolean, n, .inl _)) => some n
  | some (.inl (.long, n, .inr (.inl _))) => some n
  | _ => none
def am_cl (h : am_H) (r : Nat) : Option Nat := match h.2.2 r with
  | some (.inr (c, _)) => some c
  | _ => none
def am_two : Option Value → Bool
  | some v => v.category == 2
  | none => false
/-- a value of one word into a local -/
def am_st1 : am_L → Nat → Value → Option am_L
  | [], _, _ => none
  | _ :: r, 0, v => some (some v :: r)
  | x :: r, 1, v => if am_two x then none else (am_st1 r 0 v).map (x :: ·)
  | x :: r, i + 2, v => (am_st1 r (i + 1) v).map (x :: ·)
/-- a value of two words into a local -/
def am_st2 : am_L → Nat → Value → Option am_L
  | [], _, _ => none
  | [_], _, _ => none
  | _ :: _ :: r, 0, v => some (some v :: none :: r)
  | x :: r, 1, v => if am_two x then none else (am_st2 r 0 v).map (x :: ·)
  | x :: r, i + 2, v => (am_st2 r (i + 1) v).map (x :: ·)
def am_ld (lv : am_L) (i : Nat) : Option Value := match lv[i]? with
  | some (some v) => some v
  | _ => none
def am_cat : List Value → Nat
  | [] => 0
  | v :: r => v.category + am_cat r
def am_jmp (cd : List am_I) (t : Nat) : List am_I := match cd with
  | [] => []
  | e :: r => if e.1 = t then e :: r else am_jmp r t
def am_pc (is : List am_I) : Nat := match is with
  | [] => 0
  | e :: _ => e.1
def am_sw (sw : List (Int32 × Nat)) (d : Nat) (x : Int32) : Nat := match sw with
  | [] => d
  | (k, t) :: r => if x = k then t else am_sw r d x
/-- what a call leaves: the answer on top of the rest -/
def am_k (is : List am_I) (lv : am_L) (st : List Value) (o : Option am_R) : Option (am_S ⊕ am_R) := match o with
  | some (some v, h) => if am_cat st ≤ 8 then some (.inl (is, lv, v :: st, h)) else none
  | some (none, h) => if am_cat st ≤ 8 then some (.inl (is, lv, st, h)) else none
  | none => none
/-- arguments off the stack -/
def am_pop : Nat → List Value → List Value → Option (List Value × List Value)
  | 0, acc, st => some (acc, st)
  | n + 1, acc, v :: st => am_pop n (v :: acc) st
  | _ + 1, _, [] => none
def am_c1 (is : List am_I) (lv : am_L) (h : am_H) (g : Value → Option Value) (st : List Value) : Option (am_S ⊕ am_R) := match st with
  | x :: st => match g x with
    | some v => some (.inl (is, lv, v :: st, h))
    | none => none
  | _ => none
def am_c2 (is : List am_I) (lv : am_L) (h : am_H) (g : Value → Value → Option Value) (st : List Value) : Option (am_S ⊕ am_R) := match st with
  | y :: x :: st => match g x y with
    | some v => some (.inl (is, lv, v :: st, h))
    | none => none
  | _ => none
def am_ii (g : Int32 → Int32 → Option Value) (x y : Value) : Option Value := match x, y with
  | .int x, .int y => g x y
  | _, _ => none
def am_ll (g : Int64 → Int64 → Option Value) (x y : Value) : Option Value := match x, y with
  | .long x, .long y => g x y
  | _, _ => none
def am_cc (c : Jvm.ClassFile.Cond) (x y : Int32) : Bool := match c with
  | .eq => decide (x = y)
  | .ne => decide (¬ x = y)
  | .lt => decide (x < y)
  | .ge => decide (y ≤ x)
  | .gt => decide (y < x)
  | .le => decide (x ≤ y)
def am_ex (f : am_F) (cd : List am_I) (ins : Instr) (a b : Nat) (v : Value) (sw : List (Int32 × Nat)) (is : List am_I) (lv : am_L) (st : List Value) (h : am_H) : Option (am_S ⊕ am_R) :=
  match ins with
  | .iconst _ => some (.inl (is, lv, v :: st, h))
  | .bipush _ => some (.inl (is, lv, v :: st, h))
  | .sipush _ => some (.inl (is, lv, v :: st, h))
  | .ldc _ => some (.inl (is, lv, v :: st, h))
  | .lconst _ => some (.inl (is, lv, v :: st, h))
  | .ldc2_w _ => some (.inl (is, lv, v :: st, h))
  | .iload i => match am_ld lv i with
    | some (.int x) => some (.inl (is, lv, .int x :: st, h))
    | _ => none
  | .iload_n i => match am_ld lv i with
    | some (.int x) => some (.inl (is, lv, .int x :: st, h))
    | _ => none
  | .lload i => match am_ld lv i with
    | some (.long x) => some (.inl (is, lv, .long x :: st, h))
    | _ => none
  | .lload_n i => match am_ld lv i with
    | some (.long x) => some (.inl (is, lv, .long x :: st, h))
    | _ => none
  | .aload i => match am_ld lv i with
    | some (.ref x) => some (.inl (is, lv, .ref x :: st, h))
    | _ => none
  | .aload_n i => match am_ld lv i with
    | some (.ref x) => some (.inl (is, lv, .ref x :: st, h))
    | _ => none
  | .istore i => match st with
    | .int x :: st => (am_st1 lv i (.int x)).map (fun lv => .inl (is, lv, st, h))
    | _ => none
  | .istore_n i => match st with
    | .int x :: st => (am_st1 lv i (.int x)).map (fun lv => .inl (is, lv, st, h))
    | _ => none
  | .astore i => match st with
    | .ref x :: st => (am_st1 lv i (.ref x)).map (fun lv => .inl (is, lv, st, h))
    | _ => none
  | .astore_n i => match st with
    | .ref x :: st => (am_st1 lv i (.ref x)).map (fun lv => .inl (is, lv, st, h))
    | _ => none
  | .lstore i => match st with
    | .long x :: st => (am_st2 lv i (.long x)).map (fun lv => .inl (is, lv, st, h))
    | _ => none
  | .lstore_n i => match st with
    | .long x :: st => (am_st2 lv i (.long x)).map (fun lv => .inl (is, lv, st, h))
    | _ => none
  | .iinc i _ => match am_ld lv i, v with
    | some (.int x), .int y => (am_st1 lv i (.int (x + y))).map (fun lv => .inl (is, lv, st, h))
    | _, _ => none
  | .iadd => am_c2 is lv h (am_ii fun x y => some (.int (x + y))) st
  | .isub => am_c2 is lv h (am_ii fun x y => some (.int (x - y))) st
  | .imul => am_c2 is lv h (am_ii fun x y => some (.int (x * y))) st
  | .iand => am_c2 is lv h (am_ii fun x y => some (.int (x &&& y))) st
  | .ishr => am_c2 is lv h (am_ii fun x y => some (.int (x >>> (y &&& 31)))) st
  | .idiv => am_c2 is lv h (am_ii fun x y => if y = 0 then none else some (.int (x / y))) st
  | .irem => am_c2 is lv h (am_ii fun x y => if y = 0 then none else some (.int (x - x / y * y))) st
  | .ladd => am_c2 is lv h (am_ll fun x y => some (.long (x + y))) st
  | .lsub => am_c2 is lv h (am_ll fun x y => some (.long (x - y))) st
  | .land => am_c2 is lv h (am_ll fun x y => some (.long (x &&& y))) st
  | .lor => am_c2 is lv h (am_ll fun x y => some (.long (x ||| y))) st
  | .lcmp => am_c2 is lv h (am_ll fun x y => some (.int (lg_cmp x y))) st
  | .lshl => match st with
    | .int y :: .long x :: st => some (.inl (is, lv, .long (x <<< (y.toInt64 &&& 63)) :: st, h))
    | _ => none
  | .i2l => match st with
    | .int x :: st => some (.inl (is, lv, .long x.toInt64 :: st, h))
    | _ => none
  | .l2i => match st with
    | .long x :: st => some (.inl (is, lv, .int x.toInt32 :: st, h))
    | _ => none
  | .dup => match st with
    | x :: st => if x.category = 1 then some (.inl (is, lv, x :: x :: st, h)) else none
    | _ => none
  | .pop => match st with
    | x :: st => if x.category = 1 then some (.inl (is, lv, st, h)) else none
    | _ => none
  | .dup2 => match st with
    | x :: y :: st => if x.category = 1 ∧ y.category = 1 then some (.inl (is, lv, x :: y :: x :: y :: st, h)) else none
    | _ => none
  | .ifCond q _ => match st with
    | .int x :: st => some (.inl (if am_cc q x 0 = true then am_jmp cd a else is, lv, st, h))
    | _ => none
  | .if_icmp q _ => match st with
    | .int y :: .int x :: st => some (.inl (if am_cc q x y = true then am_jmp cd a else is, lv, st, h))
    | _ => none
  | .goto _ => some (.inl (am_jmp cd a, lv, st, h))
  | .tableswitch _ _ _ _ => match st with
    | .int x :: st => some (.inl (am_jmp cd (am_sw sw a x), lv, st, h))
    | _ => none
  | .lookupswitch _ _ => match st with
    | .int x :: st => some (.inl (am_jmp cd (am_sw sw a x), lv, st, h))
    | _ => none
  | .getfield _ => match st with
    | .ref r :: st => match am_gf h r a b with
      | some v => some (.inl (is, lv, v :: st, h))
      | none => none
    | _ => none
  | .putfield _ => match st with
    | w :: .ref r :: st => if narrow (am_ty a b) w = w ∧ fits (am_ty a b) w = true then (match am_pf h r a b w with
      | some h => some (.inl (is, lv, st, h))
      | none => none) else none
    | _ => none
  | .iaload => match st with
    | .int i :: .ref r :: st => match am_gi h r i with
      | some x => some (.inl (is, lv, .int x :: st, h))
      | none => none
    | _ => none
  | .baload => match st with
    | .int i :: .ref r :: st => match am_gz h r i with
      | some x => some (.inl (is, lv, .int x :: st, h))
      | none => none
    | _ => none
  | .laload => match st with
    | .int i :: .ref r :: st => match am_gl h r i with
      | some x => some (.inl (is, lv, .long x :: st, h))
      | none => none
    | _ => none
  | .iastore => match st with
    | .int x :: .int i :: .ref r :: st => match am_pi h r i x with
      | some h => some (.inl (is, lv, st, h))
      | none => none
    | _ => none
  | .bastore => match st with
    | .int x :: .int i :: .ref r :: st => match am_pz h r i x with
      | some h => some (.inl (is, lv, st, h))
      | none => none
    | _ => none
  | .lastore => match st with
    | .long x :: .int i :: .ref r :: st => match am_pl h r i x with
      | some h => some (.inl (is, lv, st, h))
      | none => none
    | _ => none
  | .arraylength => match st with
    | .ref r :: st => match am_ln h r with
      | some n => some (.inl (is, lv, .int (Int32.ofNat n) :: st, h))
      | none => none
    | _ => none
  | .newarray t => match st with
    | .int n :: st => if n < 0 ∨ 1000000 < n.toNatClampNeg then none else match t with
      | .int => some (.inl (is, lv, .ref (h.1 + 1) :: st, am_nw h n.toNatClampNeg (.inl (.int, n.toNatClampNeg, .inl (fun _ => 0)))))
      | .boolean => some (.inl (is, lv, .ref (h.1 + 1) :: st, am_nw h n.toNatClampNeg (.inl (.boolean, n.toNatClampNeg, .inl (fun _ => 0)))))
      | .long => some (.inl (is, lv, .ref (h.1 + 1) :: st, am_nw h n.toNatClampNeg (.inl (.long, n.toNatClampNeg, .inr (.inl (fun _ => 0))))))
      | _ => none
    | _ => none
  | .new _ => some (.inl (is, lv, .ref (h.1 + 1) :: st, am_nw h (am_N a) (.inr (a, am_df a))))
  | .invokevirtual _ => match v with
    | .ref c => match am_pop b [] st with
      | some (As, .ref r :: st) => if am_cl h r = some c then am_k is lv st (f a (.ref r :: As) h) else none
      | _ => none
    | _ => none
  | .invokespecial _ => match v with
    | .null => match st with
      | .ref _ :: st => if am_cat st ≤ 8 then some (.inl (is, lv, st, h)) else none
      | _ => none
    | _ => match am_pop b [] st with
      | some (As, .ref r :: st) => am_k is lv st (f a (.ref r :: As) h)
      | _ => none
  | .invokestatic _ => match v with
    | .null => match st with
      | .int y :: .int x :: st => if am_cat st ≤ 8 then some (.inl (is, lv, .int (if x < y then y else x) :: st, h)) else none
      | _ => none
    | .long _ => match st with
      | .int n :: .int dp :: .ref r' :: .int sp :: .ref r :: st => if r = r' ∧ am_cat st ≤ 8 then (match am_cy h r sp dp n with
        | some h => some (.inl (is, lv, st, h))
        | none => none) else none
      | _ => none
    | _ => match am_pop b [] st with
      | some (As, st) => am_k is lv st (f a As h)
      | _ => none
  | .ireturn => match st with
    | [.int x] => if a = 0 ∨ x = 0 ∨ x = 1 then some (.inr (some (.int x), h)) else none
    | _ => none
  | .lreturn => match st with
    | [.long x] => some (.inr (some (.long x), h))
    | _ => none
  | .return_ => match st with
    | [] => some (.inr (none, h))
    | _ => none
  | _ => none
def am_step (f : am_F) (cd : List am_I) (s : am_S) : Option (am_S ⊕ am_R) := match s with
  | ((_, ins, a, b, v, sw) :: is, lv, st, h) => am_ex f cd ins a b v sw is lv st h
  | _ => none
def am_run (f : am_F) (cd : List am_I) : Nat → am_S → Option am_R
  | 0, _ => none
  | n + 1, s => match am_step f cd s with
    | some (.inl s') => am_run f cd n s'
    | some (.inr r) => some r
    | none => none
theorem am_run_mono (f : am_F) (cd : List am_I) : ∀ (n k : Nat) (s : am_S) (r : am_R), am_run f cd n s = some r → am_run f cd (n + k) s = some r
  | 0, _, _, _, h => by simp [am_run] at h
  | n + 1, k, s, r, h => by
    rw [show n + 1 + k = (n + k) + 1 by omega]
    unfold am_run at h ⊢
    cases hs : am_step f cd s with
    | none => rw [hs] at h; cases h
    | some o =>
      rw [hs] at h
      cases o with
      | inl s' => exact am_run_mono f cd n k s' r h
      | inr r' => exact h
theorem am_ex1 (f : am_F) (cd : List am_I) (s : am_S) : ∃ o : Option am_R, ∀ r, o = some r ↔ ∃ n, am_run f cd n s = some r := by
  rcases Classical.em (∃ r n, am_run f cd n s = some r) with ⟨r, n, h⟩ | h
  · refine ⟨some r, fun r' => ⟨fun e => (by cases e; exact ⟨n, h⟩), fun ⟨n', h'⟩ => ?_⟩⟩
    have h1 := am_run_mono f cd n n' s r h
    have h2 := am_run_mono f cd n' n s r' h'
    rw [Nat.add_comm] at h2
    exact h1.symm.trans h2
  · exact ⟨none, fun r => ⟨fun e => (by cases e), fun ⟨n, h'⟩ => absurd ⟨r, n, h'⟩ h⟩⟩
/-- a run to its end -/
noncomputable def am_X (f : am_F) (cd : List am_I) (s : am_S) : Option am_R := Classical.choose (am_ex1 f cd s)
theorem am_X_iff {f : am_F} {cd : List am_I} {s : am_S} {r : am_R} : am_X f cd s = some r ↔ ∃ n, am_run f cd n s = some r := Classical.choose_spec (am_ex1 f cd s) r
theorem am_X_step {f : am_F} {cd : List am_I} {s s' : am_S} (h : am_step f cd s = some (.inl s')) : am_X f cd s = am_X f cd s' := by
  have key : ∀ r, am_X f cd s = some r ↔ am_X f cd s' = some r := by
    intro r
    rw [am_X_iff, am_X_iff]
    constructor
    · rintro ⟨n, hn⟩
      cases n with
      | zero => simp [am_run] at hn
      | succ n => unfold am_run at hn; rw [h] at hn; exact ⟨n, hn⟩
    · rintro ⟨n, hn⟩
      exact ⟨n + 1, by unfold am_run; rw [h]; exact hn⟩
  cases h1 : am_X f cd s with
  | some r => exact ((key r).mp h1).symm
  | none =>
    cases h2 : am_X f cd s' with
    | none => rfl
    | some r => rw [(key r).mpr h2] at h1; cases h1
theorem am_X_end {f : am_F} {cd : List am_I} {s : am_S} {r : am_R} (h : am_step f cd s = some (.inr r)) : am_X f cd s = some r :=
  am_X_iff.mpr ⟨1, by unfold am_run; rw [h]⟩
theorem am_X_bad {f : am_F} {cd : List am_I} {s : am_S} (h : am_step f cd s = none) : am_X f cd s = none := by
  cases h1 : am_X f cd s with
  | none => rfl
  | some r =>
    obtain ⟨n, hn⟩ := am_X_iff.mp h1
    cases n with
    | zero => simp [am_run] at hn
    | succ n => unfold am_run at hn; rw [h] at hn; cases hn
/-- locals at a method's entry -/
def am_ar : List Value → am_L
  | [] => []
  | .long x :: r => some (.long x) :: none :: am_ar r
  | .double x :: r => some (.double x) :: none :: am_ar r
  | v :: r => some v :: am_ar r
def am_en (n : Nat) (As : List Value) : am_L := am_ar As ++ List.replicate (n - (am_ar As).length) none
/-- a method: owner, name, bytes, locals, answer, constructor?, code -/
abbrev am_Q : Type := Nat × MethodName × ByteArray × Nat × Option FieldType × Bool × List am_I
noncomputable def am_ev (ms : List am_Q) : Nat → am_F
  | 0, _, _, _ => none
  | d + 1, j, As, h => match ms[j]? with
    | some (_, _, _, n, _, _, cd) => if (am_ar As).length ≤ n then am_X (am_ev ms d) cd (cd, am_en n As, [], h) else none
    | none => none
end
section
/-! What the abstract machine's places, locals and stacks are on the machine. -/
def am_rl (b sz : Nat) (v : Value) : Value := match v with
  | .ref 0 => .ref b
  | .ref (k + 1) => .ref (sz + k)
  | w => w
def am_cE (dA : FieldType → ClassId) (b sz : Nat) (e : am_E) : va_E := match e with
  | .inl (ty, x) => .inl (dA ty, x)
  | .inr (c, fs) => .inr (c, fs.map (am_rl b sz))
def am_P (D : va_G) (dA : FieldType → ClassId) (b sz : Nat) (h : am_H) (U : State) (H : Heap) : Prop :=
  H.size = sz + h.1 ∧ (∀ (k : Nat) (e : am_E), h.2.2 (k + 1) = some e → va_at D vwCl (sz + k, am_cE dA b sz e) H) ∧ ∀ e : am_E, h.2.2 0 = some e → ∃ (L : Nat) (xs : Nat → Int32), e = .inl (.int, L, .inl xs) ∧ va_X b L xs U H
def am_tys (dA : FieldType → ClassId) : List (ClassId × FieldType) := [(dA .int, .int), (dA .long, .long), (dA .boolean, .boolean)]
def am_K (D : va_G) (dA : FieldType → ClassId) (U : State) : Prop := va_K D vwCl (am_tys dA) U ∧ ∀ w ∈ am_nst, va_Nw w U
def am_lv (nL b sz : Nat) (lv : am_L) (ls : Array Slot) : Prop := ls.size = nL ∧ lv.length = nL ∧ lv_wf ls ∧ ∀ (i : Nat) (v : Value), lv[i]? = some (some v) → ls[i]? = some (.val (am_rl b sz v))
theorem am_rl_cat (b sz : Nat) (v : Value) : (am_rl b sz v).category = v.category := by
  cases v with
  | ref k => cases k <;> rfl
  | _ => rfl
theorem am_rl_int (b sz : Nat) (x : Int32) : am_rl b sz (.int x) = .int x := rfl
theorem am_rl_long (b sz : Nat) (x : Int64) : am_rl b sz (.long x) = .long x := rfl
theorem am_rl_null (b sz : Nat) : am_rl b sz .null = .null := rfl
theorem am_rl_ref (b sz k : Nat) : am_rl b sz (.ref (k + 1)) = .ref (sz + k) := rfl
theorem am_K.moved {D : va_G} {dA : FieldType → ClassId} {s U : State} (hW : s.WarmedH U.vm) (h : am_K D dA s) : am_K D dA U := by
  refine ⟨va_K.moved hW.alike h.1, fun w hw => ?_⟩
  obtain ⟨a, i, x, q, rfl⟩ := am_nst_form w hw
  exact va_Nw.warmM hW (h.2 _ hw)
theorem am_K.same {D : va_G} {dA : FieldType → ClassId} {s U : State} (hv : s.vm = U.vm) (h : am_K D dA s) : am_K D dA U := by
  refine ⟨va_K.moved (by rw [hv]; exact Vm.Alike.refl U.vm) h.1, fun w hw => ?_⟩
  obtain ⟨a, i, x, q, rfl⟩ := am_nst_form w hw
  exact va_Nw.same rfl hv (h.2 _ hw)
theorem am_P.moved {D : va_G} {dA : FieldType → ClassId} {b sz : Nat} {h : am_H} {u U : State} {H : Heap} (hvm : u.vm.Alike U.vm) (hP : am_P D dA b sz h u H) : am_P D dA b sz h U H := by
  refine ⟨hP.1, hP.2.1, fun e he => ?_⟩
  obtain ⟨L, xs, h1, h2⟩ := hP.2.2 e he
  exact ⟨L, xs, h1, h2.moved hvm⟩
/-- one place changes -/
theorem am_P.up {D : va_G} {dA : FieldType → ClassId} {b sz : Nat} {h : am_H} {U : State} {H H1 : Heap} {k : Nat} {e0 e : am_E} (hb : b < sz) (hP : am_P D dA b sz h U H) (h0 : h.2.2 (k + 1) = some e0) (hz : H1.size = H.size) (ho : ∀ q : Nat, q ≠ sz + k → H1[q]? = H[q]?) (he : va_at D vwCl (sz + k, am_cE dA b sz e) H1) : am_P D dA b sz (am_up h (k + 1) e) U H1 := by
  refine ⟨hz.trans hP.1, fun j e' hj => ?_, fun e' hj => ?_⟩
  · simp only [am_up] at hj
    by_cases hjk : j = k
    · subst hjk
      simp at hj
      subst hj
      exact he
    · rw [if_neg (by omega)] at hj
      exact (hP.2.1 j e' hj).kept (ho _ (by show sz + j ≠ sz + k; omega))
  · simp only [am_up] at hj
    rw [if_neg (by omega)] at hj
    obtain ⟨L, xs, h1, h2⟩ := hP.2.2 e' hj
    exact ⟨L, xs, h1, h2.kept (ho b (by omega))⟩
/-- one place more -/
theorem am_P.nw {D : va_G} {dA : FieldType → ClassId} {b sz : Nat} {h : am_H} {U : State} {H H1 : Heap} {n : Nat} {e : am_E} (hb : b < sz) (hP : am_P D dA b sz h U H) (hz : H1.size = H.size + 1) (ho : ∀ q : Nat, q < H.size → H1[q]? = H[q]?) (he : va_at D vwCl (sz + h.1, am_cE dA b sz e) H1) : am_P D dA b sz (am_nw h n e) U H1 := by
  refine ⟨by show H1.size = sz + (h.1 + 1); rw [hz, hP.1]; omega, fun j e' hj => ?_, fun e' hj => ?_⟩
  · simp only [am_nw] at hj
    by_cases hjk : j = h.1
    · subst hjk
      simp at hj
      subst hj
      exact he
    · rw [if_neg (by omega)] at hj
      have h1 := hP.2.1 j e' hj
      exact h1.kept (ho _ h1.lt)
  · simp only [am_nw] at hj
    rw [if_neg (by omega)] at hj
    obtain ⟨L, xs, h1, h2⟩ := hP.2.2 e' hj
    exact ⟨L, xs, h1, h2.kept (ho b (by rw [hP.1]; omega))⟩
theorem am_S.nw {sz : Nat} {H0 H H1 : Heap} {locs : List Loc} (hS : va_S (fun q => sz ≤ q) H0 H locs) (hz : H1.size = H.size + 1) (ho : ∀ q : Nat, q < H.size → H1[q]? = H[q]?) : va_S (fun q => sz ≤ q) H0 H1 locs :=
  ⟨by rw [hz]; exact Nat.le_succ_of_le hS.1, fun q h1 h2 => (ho q (Nat.lt_of_lt_of_le h1 hS.1)).trans (hS.2.1 q h1 h2), hS.2.2⟩
/-- the known locals as pairs -/
def am_prs (b sz : Nat) : Nat → am_L → List (Nat × Value)
  | _, [] => []
  | i, some v :: r => (i, am_rl b sz v) :: am_prs b sz (i + 1) r
  | i, none :: r => am_prs b sz (i + 1) r
theorem am_prs_in (b sz : Nat) : ∀ (lv : am_L) (i : Nat) (q : Nat × Value), q ∈ am_prs b sz i lv ↔ ∃ (j : Nat) (v : Value), lv[j]? = some (some v) ∧ q = (i + j, am_rl b sz v)
  | [], i, q => by simp [am_prs]
  | some v :: r, i, q => by
    rw [am_prs, List.mem_cons, am_prs_in b sz r]
    constructor
    · rintro (rfl | ⟨j, w, h1, rfl⟩)
      · exact ⟨0, v, rfl, rfl⟩
      · exact ⟨j + 1, w, by simpa using h1, by rw [show i + 1 + j = i + (j + 1) by omega]⟩
    · rintro ⟨j, w, h1, rfl⟩
      cases j with
      | zero => simp at h1; subst h1; exact Or.inl rfl
      | succ j => exact Or.inr ⟨j, w, by simpa using h1, by rw [show i + 1 + j = i + (j + 1) by omega]⟩
  | none :: r, i, q => by
    rw [am_prs, am_prs_in b sz r]
    constructor
    · rintro ⟨j, w, h1, rfl⟩
      exact ⟨j + 1, w, by simpa using h1, by rw [show i + 1 + j = i + (j + 1) by omega]⟩
    · rintro ⟨j, w, h1, rfl⟩
      cases j with
      | zero => simp at h1
      | succ j => exact ⟨j, w, by simpa using h1, by rw [show i + 1 + j = i + (j + 1) by omega]⟩
theorem am_lv.has {nL b sz : Nat} {lv : am_L} {ls : Array Slot} (h : am_lv nL b sz lv ls) : lv_has ls nL (am_prs b sz 0 lv) := by
  refine ⟨h.1, h.2.2.1, fun q hq => ?_⟩
  obtain ⟨j, v, h1, rfl⟩ := (am_prs_in b sz lv 0 q).mp hq
  rw [Nat.zero_add]
  exact h.2.2.2 j v h1
theorem am_st1_spec : ∀ (lv : am_L) (i : Nat) (v : Value) (lv' : am_L), am_st1 lv i v = some lv' → i < lv.length ∧ lv'.length = lv.length ∧ (∀ j : Nat, lv'[j]? = if j = i then some (some v) else lv[j]?) ∧ ∀ (j : Nat) (w : Value), j + 1 = i → lv[j]? = some (some w) → w.category ≠ 2
  | [], i, v, lv', h => by cases i <;> simp [am_st1] at h
  | x :: r, 0, v, lv', h => by
    simp only [am_st1, Option.some.injEq] at h
    subst h
    refine ⟨by simp, by simp, fun j => ?_, fun j w h => by omega⟩
    cases j <;> simp
  | x :: r, 1, v, lv', h => by
    simp only [am_st1] at h
    split at h
    · cases h
    · rename_i hx
      cases hr : am_st1 r 0 v with
      | none => rw [hr] at h; cases h
      | some r' =>
        rw [hr] at h
        simp only [Option.map_some, Option.some.injEq] at h
        subst h
        obtain ⟨h1, h2, h3, h4⟩ := am_st1_spec r 0 v r' hr
        refine ⟨by simp; omega, by simp [h2], fun j => ?_, fun j w hj hw => ?_⟩
        · cases j with
          | zero => simp
          | succ j =>
            simp only [List.getElem?_cons_succ, h3 j]
            by_cases hj : j = 0 <;> simp [hj]
        · have : j = 0 := by omega
          subst this
          simp at hw
          subst hw
          simpa [am_two] using hx
  | x :: r, i + 2, v, lv', h => by
    simp only [am_st1] at h
    cases hr : am_st1 r (i + 1) v with
    | none => rw [hr] at h; cases h
    | some r' =>
      rw [hr] at h
      simp only [Option.map_some, Option.some.injEq] at h
      subst h
      obtain ⟨h1, h2, h3, h4⟩ := am_st1_spec r (i + 1) v r' hr
      refine ⟨by simp; omega, by simp [h2], fun j => ?_, fun j w hj hw => ?_⟩
      · cases j with
        | zero => simp
        | succ j =>
          simp only [List.getElem?_cons_succ, h3 j]
          by_cases hj : j = i + 1 <;> simp [hj]
      · cases j with
        | zero => omega
        | succ j => exact h4 j w (by omega) (by simpa using hw)
theorem am_st2_spec : ∀ (lv : am_L) (i : Nat) (v : Value) (lv' : am_L), am_st2 lv i v = some lv' → i + 1 < lv.length ∧ lv'.length = lv.length ∧ (∀ j : Nat, lv'[j]? = if j = i then some (some v) else if j = i + 1 then some none else lv[j]?) ∧ ∀ (j : Nat) (w : Value), j + 1 = i → lv[j]? = some (some w) → w.category ≠ 2
  | [], i, v, lv', h => by cases i <;> simp [am_st2] at h
  | [x], i, v, lv', h => by cases i <;> simp [am_st2] at h
  | x :: y :: r, 0, v, lv', h => by
    simp only [am_st2, Option.some.injEq] at h
    subst h
    refine ⟨by simp, by simp, fun j => ?_, fun j w h => by omega⟩
    rcases j with _ | _ | j <;> simp
  | x :: y :: r, 1, v, lv', h => by
    simp only [am_st2] at h
    split at h
    · cases h
    · rename_i hx
      cases hr : am_st2 (y :: r) 0 v with
      | none => rw [hr] at h; cases h
      | some r' =>
        rw [hr] at h
        simp only [Option.map_some, Option.some.injEq] at h
        subst h
        obtain ⟨h1, h2, h3, h4⟩ := am_st2_spec (y :: r) 0 v r' hr
        refine ⟨by simp at h1 ⊢; omega, by simp [h2], fun j => ?_, fun j w hj hw => ?_⟩
        · cases j with
          | zero => simp
          | succ j =>
            simp only [List.getElem?_cons_succ, h3 j]
            rcases j with _ | _ | j <;> simp
        · have : j = 0 := by omega
          subst this
          simp at hw
          subst hw
          simpa [am_two] using hx
  | x :: y :: r, i + 2, v, lv', h => by
    simp only [am_st2] at h
    cases hr : am_st2 (y :: r) (i + 1) v with
    | none => rw [hr] at h; cases h
    | some r' =>
      rw [hr] at h
      simp only [Option.map_some, Option.some.injEq] at h
      subst h
      obtain ⟨h1, h2, h3, h4⟩ := am_st2_spec (y :: r) (i + 1) v r' hr
      refine ⟨by simp at h1 ⊢; omega, by simp [h2], fun j => ?_, fun j w hj hw => ?_⟩
      · cases j with
        | zero => simp
        | succ j =>
          simp only [List.getElem?_cons_succ, h3 j]
          by_cases hj : j = i + 1
          · simp [hj]
          · by_cases hj2 : j = i + 2 <;> simp [hj, hj2]
      · cases j with
        | zero => omega
        | succ j => exact h4 j w (by omega) (by simpa using hw)
theorem am_lv.st1 {nL b sz i : Nat} {lv lv' : am_L} {ls ls' : Array Slot} {v : Value} (h : am_lv nL b sz lv ls) (hs : am_st1 lv i v = some lv') (h' : lv_has ls' nL ((i, am_rl b sz v) :: (am_prs b sz 0 lv).filter (fun q => !(q.1 == i) && !(q.1 + 1 == i && q.2.category == 2)))) : am_lv nL b sz lv' ls' := by
  obtain ⟨h1, h2, h3, h4⟩ := am_st1_spec lv i v lv' hs
  refine ⟨h'.1, h2.trans h.2.1, h'.2.1, fun j w hj => ?_⟩
  rw [h3 j] at hj
  by_cases hji : j = i
  · subst hji
    simp at hj
    subst hj
    exact h'.2.2 (j, am_rl b sz v) List.mem_cons_self
  · rw [if_neg hji] at hj
    refine h'.2.2 (j, am_rl b sz w) (List.mem_cons_of_mem _ (List.mem_filter.mpr ⟨(am_prs_in b sz lv 0 _).mpr ⟨j, w, hj, by simp⟩, ?_⟩))
    simp only [Bool.and_eq_true, Bool.not_eq_true', beq_eq_false_iff_ne, ne_eq, hji, not_false_eq_true, true_and, Bool.and_eq_false_imp, beq_iff_eq, am_rl_cat]
    intro e
    exact h4 j w e hj
theorem am_lv.st2 {nL b sz i : Nat} {lv lv' : am_L} {ls ls' : Array Slot} {v : Value} (h : am_lv nL b sz lv ls) (hs : am_st2 lv i v = some lv') (h' : lv_has ls' nL ((i, am_rl b sz v) :: (am_prs b sz 0 lv).filter (fun q => !(q.1 == i) && (!(q.1 == i + 1) && !(q.1 + 1 == i && q.2.category == 2))))) : am_lv nL b sz lv' ls' := by
  obtain ⟨h1, h2, h3, h4⟩ := am_st2_spec lv i v lv' hs
  refine ⟨h'.1, h2.trans h.2.1, h'.2.1, fun j w hj => ?_⟩
  rw [h3 j] at hj
  by_cases hji : j = i
  · subst hji
    simp at hj
    subst hj
    exact h'.2.2 (j, am_rl b sz v) List.mem_cons_self
  · rw [if_neg hji] at hj
    by_cases hj2 : j = i + 1
    · rw [if_pos hj2] at hj; cases hj
    · rw [if_neg hj2] at hj
      refine h'.2.2 (j, am_rl b sz w) (List.mem_cons_of_mem _ (List.mem_filter.mpr ⟨(am_prs_in b sz lv 0 _).mpr ⟨j, w, hj, by simp⟩, ?_⟩))
      simp only [Bool.and_eq_true, Bool.not_eq_true', beq_eq_false_iff_ne, ne_eq, hji, hj2, not_false_eq_true, true_and, Bool.and_eq_false_imp, beq_iff_eq, am_rl_cat]
      intro e
      exact h4 j w e hj
theorem am_ld_spec {lv : am_L} {i : Nat} {v : Value} (h : am_ld lv i = some v) : lv[i]? = some (some v) := by
  unfold am_ld at h
  split at h
  · rename_i w hw; cases h; exact hw
  · cases h
theorem am_lv.at {nL b sz i : Nat} {lv : am_L} {ls : Array Slot} {v : Value} (h : am_lv nL b sz lv ls) (hl : am_ld lv i = some v) : ls[i]? = some (.val (am_rl b sz v)) := h.2.2.2 i v (am_ld_spec hl)
theorem am_lv.pair {nL b sz i : Nat} {lv : am_L} {ls : Array Slot} {v : Value} (_ : am_lv nL b sz lv ls) (hl : am_ld lv i = some v) : ∃ k : Nat, (am_prs b sz 0 lv)[k]? = some (i, am_rl b sz v) :=
  List.getElem?_of_mem ((am_prs_in b sz lv 0 _).mpr ⟨i, v, am_ld_spec hl, by simp⟩)
/-- entry -/
theorem am_sl_cons (v : Value) (r : List Value) : lg_sl (v :: r) = (if v.category = 2 then [.val v, .second] else [.val v]) ++ lg_sl r := by simp [lg_sl]
theorem am_ar_len : ∀ As : List Value, (am_ar As).length = (lg_sl As).length
  | [] => rfl
  | .long x :: r => by rw [am_sl_cons]; simp [am_ar, Value.category, am_ar_len r]
  | .double x :: r => by rw [am_sl_cons]; simp [am_ar, Value.category, am_ar_len r]
  | .int x :: r => by rw [am_sl_cons]; simp [am_ar, Value.category, am_ar_len r]
  | .float x :: r => by rw [am_sl_cons]; simp [am_ar, Value.category, am_ar_len r]
  | .null :: r => by rw [am_sl_cons]; simp [am_ar, Value.category, am_ar_len r]
  | .ref x :: r => by rw [am_sl_cons]; simp [am_ar, Value.category, am_ar_len r]
  | .retAddr x :: r => by rw [am_sl_cons]; simp [am_ar, Value.category, am_ar_len r]
theorem am_sl_len (b sz : Nat) (As : List Value) : (lg_sl (As.map (am_rl b sz))).length = (lg_sl As).length := by
  induction As with
  | nil => rfl
  | cons v r ih =>
    rw [List.map_cons, am_sl_cons, am_sl_cons, List.length_append, List.length_append, ih, am_rl_cat]
    by_cases h : v.category = 2 <;> simp [h]
theorem am_ar_at (b sz : Nat) : ∀ (As : List Value) (i j : Nat) (v : Value), (am_ar As)[j]? = some (some v) → (i + j, am_rl b sz v) ∈ lv_args i (As.map (am_rl b sz)) := by
  intro As
  induction As with
  | nil => intro i j v h; simp [am_ar] at h
  | cons x r ih =>
    intro i j v h
    have two : x.category = 2 → am_ar (x :: r) = some x :: none :: am_ar r := by cases x <;> simp [Value.category, am_ar]
    have one : ¬ x.category = 2 → am_ar (x :: r) = some x :: am_ar r := by cases x <;> simp [Value.category, am_ar]
    simp only [List.map_cons, lv_args, am_rl_cat, List.mem_cons]
    by_cases hc : x.category = 2
    · rw [two hc] at h
      rw [if_pos hc]
      rcases j with _ | _ | j
      · simp at h; subst h; exact Or.inl rfl
      · simp at h
      · refine Or.inr ?_
        have h2 := ih (i + 2) j v (by simpa using h)
        rwa [show i + 2 + j = i + (j + 1 + 1) by omega] at h2
    · rw [one hc] at h
      rw [if_neg hc]
      rcases j with _ | j
      · simp at h; subst h; exact Or.inl rfl
      · refine Or.inr ?_
        have h2 := ih (i + 1) j v (by simpa using h)
        rwa [show i + 1 + j = i + (j + 1) by omega] at h2
theorem am_lv.entry (nL b sz : Nat) (As : List Value) (h : (am_ar As).length ≤ nL) : am_lv nL b sz (am_en nL As) ((lg_sl (As.map (am_rl b sz)) ++ List.replicate (nL - (lg_sl (As.map (am_rl b sz))).length) Slot.unset).toArray) := by
  have e := am_ar_len As
  have e2 := am_sl_len b sz As
  have hh := lv_entry (As.map (am_rl b sz)) (n := nL) (by omega)
  refine ⟨hh.1, by simp [am_en]; omega, hh.2.1, fun i v hi => ?_⟩
  unfold am_en at hi
  by_cases hl : i < (am_ar As).length
  · rw [List.getElem?_append_left hl] at hi
    have h2 := am_ar_at b sz As 0 i v hi
    rw [Nat.zero_add] at h2
    exact hh.2.2 _ h2
  · rw [List.getElem?_append_right (by omega), List.getElem?_replicate] at hi
    split at hi <;> simp at hi
theorem am_cat_sum (b sz : Nat) (st : List Value) : ((st.map (am_rl b sz)).map fun v => v.category).sum = am_cat st := by
  induction st with
  | nil => rfl
  | cons v r ih => simp only [List.map_cons, List.sum_cons, am_cat, am_rl_cat] at ih ⊢; rw [ih]
theorem am_pop_spec : ∀ (n : Nat) (acc st As rest : List Value), am_pop n acc st = some (As, rest) → ∃ bs : List Value, bs.length = n ∧ As = bs ++ acc ∧ st = bs.reverse ++ rest
  | 0, acc, st, As, rest, h => by
    simp only [am_pop, Option.some.injEq, Prod.mk.injEq] at h
    obtain ⟨rfl, rfl⟩ := h
    exact ⟨[], rfl, rfl, rfl⟩
  | n + 1, acc, [], As, rest, h => by simp [am_pop] at h
  | n + 1, acc, v :: st, As, rest, h => by
    simp only [am_pop] at h
    obtain ⟨bs, h1, h2, h3⟩ := am_pop_spec n (v :: acc) st As rest h
    refine ⟨bs ++ [v], by simp [h1], by simp [h2], by simp [h3]⟩
theorem am_sw_in (d : Nat) (x : Int32) : ∀ (sw : List (Int32 × Nat)) (lo : Int), (∀ (i : Nat) (q : Int32 × Nat), sw[i]? = some q → q.1.toInt = lo + i) → lo ≤ x.toInt → x.toInt < lo + sw.length → ∃ q : Int32 × Nat, sw[(x.toInt - lo).toNat]? = some q ∧ am_sw sw d x = q.2
  | [], lo, _, h1, h2 => by simp at h2; omega
  | (k, t) :: r, lo, hk, h1, h2 => by
    have h0 := hk 0 (k, t) rfl
    simp at h0
    by_cases hx : x = k
    · refine ⟨(k, t), ?_, by simp [am_sw, hx]⟩
      rw [hx, h0]; simp
    · have hne : x.toInt ≠ lo := fun e => hx (Int32.toInt_inj.mp (by rw [e, h0]))
      obtain ⟨q, g1, g2⟩ := am_sw_in d x r (lo + 1) (fun i q hq => by
        have := hk (i + 1) q (by simpa using hq)
        rw [this]; simp; omega) (by omega) (by simp at h2; omega)
      refine ⟨q, ?_, by simp only [am_sw, if_neg hx]; exact g2⟩
      rw [show (x.toInt - lo).toNat = (x.toInt - (lo + 1)).toNat + 1 by omega, List.getElem?_cons_succ]
      exact g1
theorem am_sw_out (d : Nat) (x : Int32) : ∀ (sw : List (Int32 × Nat)) (lo : Int), (∀ (i : Nat) (q : Int32 × Nat), sw[i]? = some q → q.1.toInt = lo + i) → (x.toInt < lo ∨ lo + sw.length ≤ x.toInt) → am_sw sw d x = d
  | [], lo, _, _ => rfl
  | (k, t) :: r, lo, hk, h => by
    have h0 := hk 0 (k, t) rfl
    simp at h0
    have hx : ¬ x = k := fun e => by rw [e] at h; simp at h; omega
    simp only [am_sw, if_neg hx]
    refine am_sw_out d x r (lo + 1) (fun i q hq => by
        have := hk (i + 1) q (by simpa using hq)
        rw [this]; simp; omega) ?_
    simp at h
    omega
/-- a lookupswitch's pairs beside the table's -/
def am_lks (pc : Nat) : List (Int × Int) → List (Int32 × Nat) → Bool
  | [], [] => true
  | (m, o) :: ps, (k, t) :: sw => decide (k.toInt = m) && decide ((pc : Int) + o = (t : Int)) && am_lks pc ps sw
  | _, _ => false
theorem am_lks_ok (pc a : Nat) (d : Int) (hd : (pc : Int) + d = (a : Int)) (x : Int32) : ∀ (ps : List (Int × Int)) (sw : List (Int32 × Nat)), am_lks pc ps sw = true → (pc : Int) + Op.lookupswitch.offset ps d x.toInt = (am_sw sw a x : Int)
  | [], [], _ => by rw [Op.lookupswitch.offset_nil]; exact hd
  | [], _ :: _, h => by cases h
  | _ :: _, [], h => by cases h
  | (m, o) :: ps, (k, t) :: sw, h => by
    simp only [am_lks, Bool.and_eq_true, decide_eq_true_eq] at h
    rw [Op.lookupswitch.offset_cons, am_sw]
    by_cases hx : x = k
    · rw [if_pos (by rw [hx]; exact h.1.1.symm), if_pos hx]; exact h.1.2
    · rw [if_neg (fun e => hx (Int32.toInt_inj.mp (by rw [h.1.1]; exact e.symm))), if_neg hx]
      exact am_lks_ok pc a d hd x ps sw h.2
theorem am_jmp_pc (t : Nat) : ∀ cd : List am_I, am_jmp cd t ≠ [] → am_pc (am_jmp cd t) = t
  | [], h => absurd rfl h
  | e :: r, h => by
    unfold am_jmp at h ⊢
    by_cases he : e.1 = t
    · rw [if_pos he]; exact he
    · rw [if_neg he] at h ⊢; exact am_jmp_pc t r h
end
section
/-! When a table of instructions is a method's code. -/
def am_dc (cc : ByteArray) (pc : Nat) (ins : Instr) (n : Nat) : Bool := match decode cc pc with
  | .ok (i, k) => decide (i = ins) && decide (k = n)
  | .error _ => false
def am_dx (cc : ByteArray) (pc : Nat) (ins : Instr) : Bool := match decode cc pc with
  | .ok (i, _) => decide (i = ins)
  | .error _ => false
theorem am_dc_ok {cc : ByteArray} {pc : Nat} {ins : Instr} {n : Nat} (h : am_dc cc pc ins n = true) : decode cc pc = .ok (ins, n) := by
  unfold am_dc at h
  split at h
  · rename_i i k hd
    simp only [Bool.and_eq_true, decide_eq_true_eq] at h
    rw [hd, h.1, h.2]
  · cases h
theorem am_dx_ok {cc : ByteArray} {pc : Nat} {ins : Instr} (h : am_dx cc pc ins = true) : ∃ n, decode cc pc = .ok (ins, n) := by
  unfold am_dx at h
  split at h
  · rename_i i k hd
    simp only [decide_eq_true_eq] at h
    exact ⟨k, by rw [hd, h]⟩
  · cases h
def am_tsw (pc a : Nat) (d lo hi : Int) (offs : List Int) (sw : List (Int32 × Nat)) : Bool :=
  decide ((pc : Int) + d = (a : Int)) && decide (hi + 1 = lo + offs.length) && decide (sw.length = offs.length) && (List.range offs.length).all (fun i => match sw[i]?, offs[i]? with
    | some (k, t), some o => decide (k.toInt = lo + i) && decide ((pc : Int) + o = (t : Int))
    | _, _ => false)
/-- parameters of method j, without 'this' -/
def am_np (j : Nat) : Option Nat := match am_my[j]? with
  | some y => (parseMethodDescriptor y.desc).map (fun d => d.parameters.length)
  | none => none
def am_vi (o : Nat) (ini : Bool) (rt : Option FieldType) (cc : ByteArray) (e : am_I) (nx : Nat) : Bool := match e with
  | (pc, ins, a, b, v, sw) => match ins with
    | .iconst n => am_dc cc pc ins 1 && decide (nx = pc + 1) && decide (v = .int (Int32.ofInt n))
    | .bipush n => am_dc cc pc ins 2 && decide (nx = pc + 2) && decide (v = .int (Int8.ofInt n).toInt32)
    | .sipush n => am_dc cc pc ins 3 && decide (nx = pc + 3) && decide (v = .int (Int16.ofInt n).toInt32)
    | .lconst n => am_dc cc pc ins 1 && decide (nx = pc + 1) && decide (v = .long (Int64.ofNat (n : Nat)))
    | .ldc i => am_dc cc pc ins 2 && decide (nx = pc + 2) && am_ki.any (fun q => decide (q.1 = o) && decide (q.2.1 = i) && decide (v = .int q.2.2.1))
    | .ldc2_w i => am_dc cc pc ins 3 && decide (nx = pc + 3) && am_kl.any (fun q => decide (q.1 = o) && decide (q.2.1 = i) && decide (v = .long q.2.2.1))
    | .iload _ | .lload _ | .aload _ | .istore _ | .lstore _ | .astore _ => am_dc cc pc ins 2 && decide (nx = pc + 2)
    | .iload_n _ | .lload_n _ | .aload_n _ | .istore_n _ | .lstore_n _ | .astore_n _ => am_dc cc pc ins 1 && decide (nx = pc + 1)
    | .iinc _ n => am_dc cc pc ins 3 && decide (nx = pc + 3) && decide (v = .int (Int32.ofInt n))
    | .iadd | .isub | .imul | .iand | .ishr | .idiv | .irem | .ladd | .lsub | .land | .lor | .lcmp | .lshl | .i2l | .l2i | .dup | .pop | .dup2 => am_dc cc pc ins 1 && decide (nx = pc + 1)
    | .ifCond _ off => am_dc cc pc ins 3 && decide (nx = pc + 3) && decide ((pc : Int) + off = (a : Int))
    | .if_icmp _ off => am_dc cc pc ins 3 && decide (nx = pc + 3) && decide ((pc : Int) + off = (a : Int))
    | .goto off => am_dc cc pc ins 3 && decide ((pc : Int) + off = (a : Int))
    | .tableswitch d lo hi offs => am_dx cc pc ins && am_tsw pc a d lo hi offs.toList sw
    | .lookupswitch d ps => am_dx cc pc ins && decide ((pc : Int) + d = (a : Int)) && am_lks pc ps.toList sw && (ps.toList.zip (ps.toList.drop 1)).all (fun (a, next) => a.1 < next.1)
    | .getfield i => am_dc cc pc ins 3 && decide (nx = pc + 3) && am_fl.any (fun q => decide (q.1 = o) && decide (q.2.1 = i) && decide (q.2.2.1 = a) && decide (q.2.2.2.1 = b))
    | .putfield i => am_dc cc pc ins 3 && decide (nx = pc + 3) && am_fl.any (fun q => decide (q.1 = o) && decide (q.2.1 = i) && decide (q.2.2.1 = a) && decide (q.2.2.2.1 = b)) && (!(am_T a b).2.2.2 || (ini && decide ((am_T a b).1 = am_cn o)))
    | .iaload | .baload | .laload | .iastore | .bastore | .lastore | .arraylength => am_dc cc pc ins 1 && decide (nx = pc + 1)
    | .newarray _ => am_dc cc pc ins 2 && decide (nx = pc + 2)
    | .new i => am_dc cc pc ins 3 && decide (nx = pc + 3) && am_nl.any (fun q => decide (q.1 = o) && decide (q.2.1 = i) && decide (q.2.2.1 = a))
    | .invokevirtual i => am_dc cc pc ins 3 && decide (nx = pc + 3) && am_ml.any (fun q => decide (q.1 = 0) && decide (q.2.1 = o) && decide (q.2.2.1 = i) && decide (q.2.2.2.1 = a)) && decide (am_np a = some b) && (match v, am_my[a]? with
      | .ref c, some y => decide (c < 6) && decide (am_cn c = y.cls)
      | _, _ => false)
    | .invokespecial i => am_dc cc pc ins 3 && decide (nx = pc + 3) && (match v with
      | .null => am_ml.any (fun q => decide (q.1 = 5) && decide (q.2.1 = o) && decide (q.2.2.1 = i))
      | .int 0 => am_ml.any (fun q => decide (q.1 = 1) && decide (q.2.1 = o) && decide (q.2.2.1 = i) && decide (q.2.2.2.1 = a)) && decide (am_np a = some b)
      | .int 1 => (match am_my[a]? with
        | some y => decide (Cond.methodLinkNest (am_cn o) i y RX4 ∈ am_nst)
        | none => false) && am_ml.any (fun q => decide (q.1 = 3) && decide (q.2.1 = o) && decide (q.2.2.1 = i) && decide (q.2.2.2.1 = a)) && decide (am_np a = some b)
      | _ => false)
    | .invokestatic i => am_dc cc pc ins 3 && decide (nx = pc + 3) && (match v with
      | .null => am_ml.any (fun q => decide (q.1 = 6) && decide (q.2.1 = o) && decide (q.2.2.1 = i))
      | .long _ => am_ml.any (fun q => decide (q.1 = 7) && decide (q.2.1 = o) && decide (q.2.2.1 = i))
      | .int 0 => am_ml.any (fun q => decide (q.1 = 2) && decide (q.2.1 = o) && decide (q.2.2.1 = i) && decide (q.2.2.2.1 = a)) && decide (am_np a = some b)
      | .int 1 => (match am_my[a]? with
        | some y => decide (Cond.methodLinkNest (am_cn o) i y RX4 ∈ am_nst)
        | none => false) && am_ml.any (fun q => decide (q.1 = 4) && decide (q.2.1 = o) && decide (q.2.2.1 = i) && decide (q.2.2.2.1 = a)) && decide (am_np a = some b)
      | _ => false)
    | .ireturn => am_dc cc pc ins 1 && ((decide (rt = some .int) && decide (a = 0)) || (decide (rt = some .boolean) && decide (a = 1)))
    | .lreturn => am_dc cc pc ins 1 && decide (rt = some .long)
    | .return_ => am_dc cc pc ins 1 && decide (rt = none)
    | _ => false
def am_vl (o : Nat) (ini : Bool) (rt : Option FieldType) (cc : ByteArray) : List am_I → Bool
  | [] => true
  | e :: r => am_vi o ini rt cc e (am_pc r) && am_vl o ini rt cc r
theorem am_vl_jmp {o : Nat} {ini : Bool} {rt : Option FieldType} {cc : ByteArray} (t : Nat) : ∀ cd : List am_I, am_vl o ini rt cc cd = true → am_vl o ini rt cc (am_jmp cd t) = true
  | [], _ => rfl
  | e :: r, h => by
    unfold am_jmp
    by_cases he : e.1 = t
    · rw [if_pos he]; exact h
    · rw [if_neg he]
      simp only [am_vl, Bool.and_eq_true] at h
      exact am_vl_jmp t r h.2
theorem am_fl_at {o i a b : Nat} (h : am_fl.any (fun q => decide (q.1 = o) && decide (q.2.1 = i) && decide (q.2.2.1 = a) && decide (q.2.2.2.1 = b)) = true) : a < 6 ∧ b < am_N a ∧ Cond.fieldLink (am_cn o) i (am_T a b).1 (am_T a b).2.1 (am_T a b).2.2.1 ∈ am_tb := by
  obtain ⟨q, hq, h1⟩ := List.any_eq_true.mp h
  have h2 := List.all_eq_true.mp am_fl_ok q hq
  obtain ⟨o', i', a', b', p⟩ := q
  simp only [Bool.and_eq_true, decide_eq_true_eq] at h1
  obtain ⟨⟨⟨rfl, rfl⟩, rfl⟩, rfl⟩ := h1
  simp only [am_fk, Bool.and_eq_true, decide_eq_true_eq] at h2
  exact ⟨h2.1.1, h2.1.2, am_wd_ok h2.2⟩
theorem am_nl_at {o i a : Nat} (h : am_nl.any (fun q => decide (q.1 = o) && decide (q.2.1 = i) && decide (q.2.2.1 = a)) = true) : a < 6 ∧ Cond.classLink (am_cn o) i (am_cn a) ∈ am_tb ∧ Cond.instantiable (am_cn a) (am_N a) ∈ am_tb ∧ Cond.initialized (am_cn a) ∈ am_tb := by
  obtain ⟨q, hq, h1⟩ := List.any_eq_true.mp h
  have h2 := List.all_eq_true.mp am_nl_ok q hq
  obtain ⟨o', i', a', p, p2, p3⟩ := q
  simp only [Bool.and_eq_true, decide_eq_true_eq] at h1
  obtain ⟨⟨rfl, rfl⟩, rfl⟩ := h1
  simp only [am_nk, Bool.and_eq_true, decide_eq_true_eq] at h2
  exact ⟨h2.1.1.1, am_wd_ok h2.1.1.2, am_wd_ok h2.1.2, am_wd_ok h2.2⟩
theorem am_ki_at {o i : Nat} {v : Value} (h : am_ki.any (fun q => decide (q.1 = o) && decide (q.2.1 = i) && decide (v = .int q.2.2.1)) = true) : ∃ x, v = .int x ∧ Cond.constant (am_cn o) i x ∈ am_tb := by
  obtain ⟨q, hq, h1⟩ := List.any_eq_true.mp h
  have h2 := List.all_eq_true.mp am_ki_ok q hq
  obtain ⟨o', i', x, p⟩ := q
  simp only [Bool.and_eq_true, decide_eq_true_eq] at h1
  obtain ⟨⟨rfl, rfl⟩, rfl⟩ := h1
  exact ⟨x, rfl, am_wd_ok h2⟩
theorem am_kl_at {o i : Nat} {v : Value} (h : am_kl.any (fun q => decide (q.1 = o) && decide (q.2.1 = i) && decide (v = .long q.2.2.1)) = true) : ∃ x, v = .long x ∧ Cond.constantLong (am_cn o) i x ∈ am_tb := by
  obtain ⟨q, hq, h1⟩ := List.any_eq_true.mp h
  have h2 := List.all_eq_true.mp am_kl_ok q hq
  obtain ⟨o', i', x, p⟩ := q
  simp only [Bool.and_eq_true, decide_eq_true_eq] at h1
  obtain ⟨⟨rfl, rfl⟩, rfl⟩ := h1
  exact ⟨x, rfl, am_wd_ok h2⟩
theorem am_ml_at {k o i a : Nat} (h : am_ml.any (fun q => decide (q.1 = k) && decide (q.2.1 = o) && decide (q.2.2.1 = i) && decide (q.2.2.2.1 = a)) = true) : ∃ p1 p2 p3 p4, am_mk (k, o, i, a, p1, p2, p3, p4) = true := by
  obtain ⟨q, hq, h1⟩ := List.any_eq_true.mp h
  have h2 := List.all_eq_true.mp am_ml_ok q hq
  obtain ⟨k', o', i', a', p1, p2, p3, p4⟩ := q
  simp only [Bool.and_eq_true, decide_eq_true_eq] at h1
  obtain ⟨⟨⟨rfl, rfl⟩, rfl⟩, rfl⟩ := h1
  exact ⟨_, _, _, _, h2⟩
theorem am_ml_at0 {k o i : Nat} (h : am_ml.any (fun q => decide (q.1 = k) && decide (q.2.1 = o) && decide (q.2.2.1 = i)) = true) : ∃ a p1 p2 p3 p4, am_mk (k, o, i, a, p1, p2, p3, p4) = true := by
  obtain ⟨q, hq, h1⟩ := List.any_eq_true.mp h
  have h2 := List.all_eq_true.mp am_ml_ok q hq
  obtain ⟨k', o', i', a', p1, p2, p3, p4⟩ := q
  simp only [Bool.and_eq_true, decide_eq_true_eq] at h1
  obtain ⟨⟨rfl, rfl⟩, rfl⟩ := h1
  exact ⟨_, _, _, _, _, h2⟩
theorem am_mk_y {k o i a p1 p2 p3 p4 : Nat} (h : am_mk (k, o, i, a, p1, p2, p3, p4) = true) : ∃ y, am_my[a]? = some y := by
  cases hy : am_my[a]? with
  | none => simp [am_mk, hy] at h
  | some y => exact ⟨y, rfl⟩
theorem am_mk_0 {o i a p1 p2 p3 p4 : Nat} {y : MethodName} (hy : am_my[a]? = some y) (h : am_mk (0, o, i, a, p1, p2, p3, p4) = true) : Cond.methodLink (am_cn o) i y ∈ am_tb ∧ Cond.instanceMethod y ∈ am_tb ∧ Cond.selects y.cls y y ∈ am_tb ∧ Cond.initialized y.cls ∈ am_tb := by
  simp only [am_mk, hy, Bool.and_eq_true, decide_eq_true_eq] at h
  exact ⟨am_wd_ok h.1.1.1, am_wd_ok h.1.1.2, am_wd_ok h.1.2, am_wd_ok h.2⟩
theorem am_mk_1 {o i a p1 p2 p3 p4 : Nat} {y : MethodName} (hy : am_my[a]? = some y) (h : am_mk (1, o, i, a, p1, p2, p3, p4) = true) : Cond.methodLink (am_cn o) i y ∈ am_tb ∧ Cond.instanceMethod y ∈ am_tb ∧ Cond.initialized y.cls ∈ am_tb ∧ y.name = "<init>" := by
  simp only [am_mk, hy, Bool.and_eq_true, decide_eq_true_eq] at h
  exact ⟨am_wd_ok h.1.1.1, am_wd_ok h.1.1.2, am_wd_ok h.1.2, h.2⟩
theorem am_mk_2 {o i a p1 p2 p3 p4 : Nat} {y : MethodName} (hy : am_my[a]? = some y) (h : am_mk (2, o, i, a, p1, p2, p3, p4) = true) : Cond.methodLink (am_cn o) i y ∈ am_tb ∧ Cond.static y ∈ am_tb ∧ Cond.initialized y.cls ∈ am_tb := by
  simp only [am_mk, hy, Bool.and_eq_true, decide_eq_true_eq] at h
  exact ⟨am_wd_ok h.1.1, am_wd_ok h.1.2, am_wd_ok h.2⟩
theorem am_mk_3 {o i a p1 p2 p3 p4 : Nat} {y : MethodName} (hy : am_my[a]? = some y) (h : am_mk (3, o, i, a, p1, p2, p3, p4) = true) : Cond.instanceMethod y ∈ am_tb ∧ Cond.initialized y.cls ∈ am_tb ∧ y.name = "<init>" := by
  simp only [am_mk, hy, Bool.and_eq_true, decide_eq_true_eq] at h
  exact ⟨am_wd_ok h.1.1.2, am_wd_ok h.1.2, h.2⟩
theorem am_mk_4 {o i a p1 p2 p3 p4 : Nat} {y : MethodName} (hy : am_my[a]? = some y) (h : am_mk (4, o, i, a, p1, p2, p3, p4) = true) : Cond.static y ∈ am_tb ∧ Cond.initialized y.cls ∈ am_tb := by
  simp only [am_mk, hy, Bool.and_eq_true, decide_eq_true_eq] at h
  exact ⟨am_wd_ok h.1.2, am_wd_ok h.2⟩
theorem am_mk_5 {o i a p1 p2 p3 p4 : Nat} {y : MethodName} (hy : am_my[a]? = some y) (h : am_mk (5, o, i, a, p1, p2, p3, p4) = true) : Cond.methodLink (am_cn o) i objectInit ∈ am_tb := by
  simp only [am_mk, hy] at h
  exact am_wd_ok h
theorem am_mk_6 {o i a p1 p2 p3 p4 : Nat} {y : MethodName} (hy : am_my[a]? = some y) (h : am_mk (6, o, i, a, p1, p2, p3, p4) = true) : Cond.methodLink (am_cn o) i Lib.Math.max.name ∈ am_tb := by
  simp only [am_mk, hy] at h
  exact am_wd_ok h
theorem am_mk_7 {o i a p1 p2 p3 p4 : Nat} {y : MethodName} (hy : am_my[a]? = some y) (h : am_mk (7, o, i, a, p1, p2, p3, p4) = true) : Cond.methodLink (am_cn o) i arraycopyName ∈ am_tb := by
  simp only [am_mk, hy] at h
  exact am_wd_ok h
theorem am_np_ok {a b : Nat} {y : MethodName} (hy : am_my[a]? = some y) (h : am_np a = some b) : (parseMethodDescriptor y.desc).map (fun d => d.parameters.length) = some b := by
  simp only [am_np, hy] at h
  exact h
end
section
/-! One step of the abstract machine is a step of the machine. -/
def am_C (D : va_G) (dA : FieldType → ClassId) (o : Nat) (cc : ByteArray) (nL : Nat) (rt : Option FieldType) (ini : Bool) (p : Program) (s : State) (m : MethodId) (args : Array Value) (meth : Method) (c : Code) : Prop :=
  p.tables.exec = Jvm.exec ∧ c.code = cc ∧ c.maxLocals = nL ∧ s.vm.findClass (am_cn o) = some m.cls ∧ (∀ w ∈ am_tb, w.before args s = true) ∧ meth.sig.returnType = rt ∧ meth.locks = false ∧ (ini = true → meth.name = "<init>") ∧ am_K D dA s
def am_G (p : Program) (l : Launch) (e : Env) (R : Room) (s : State) (m : MethodId) (args : Array Value) (below : List Frame) (meth : Method) (c : Code) (Q : State → Prop) (D : va_G) (dA : FieldType → ClassId) (b0 sz nL k0 n0 : Nat) (σ : am_S) : Prop :=
  ∀ pc : Nat, am_pc σ.1 = pc → ∀ (H : Heap) (locs : List Loc) (ls : Array Slot), am_P D dA b0 sz σ.2.2.2 s H → va_S (fun q => sz ≤ q) s.heap H locs → am_lv nL b0 sz σ.2.1 ls → W p l e R s m args below meth c H locs (σ.2.2.2.1 - k0) (σ.2.2.2.2.1 - n0) Q (F0 m pc ls (σ.2.2.1.map (am_rl b0 sz)))
section AMA
variable {p : Program} {l : Launch} {e : Env} {R : Room} {s : State} {m : MethodId} {args : Array Value} {below : List Frame} {meth : Method} {c : Code} {Q : State → Prop} {D : va_G} {dA : FieldType → ClassId} {b0 sz nL k0 n0 o : Nat} {cc : ByteArray} {rt : Option FieldType} {ini : Bool} {f : am_F} {cd : List am_I} {pc a b : Nat} {ins : Instr} {v : Value} {sw : List (Int32 × Nat)} {is : List am_I} {lv : am_L} {st : List Value} {h : am_H} {σ : am_S}
/-- the instructions of locals, stack, arithmetic and branches -/
def am_pl1 : Instr → Bool
  | .iconst _ | .bipush _ | .sipush _ | .ldc _ | .lconst _ | .ldc2_w _ | .iload _ | .iload_n _ | .lload _ | .lload_n _ | .aload _ | .aload_n _ | .istore _ | .istore_n _ | .astore _ | .astore_n _ | .lstore _ | .lstore_n _ | .iinc _ _ => true
  | _ => false
set_option maxHeartbeats 4000000 in
theorem am_one1 (C : am_C D dA o cc nL rt ini p s m args meth c) (hq : am_pl1 ins = true) (hst : am_ex f cd ins a b v sw is lv st h = some (.inl σ)) (hv : am_vi o ini rt cc (pc, ins, a, b, v, sw) (am_pc is) = true) (kk : am_G p l e R s m args below meth c Q D dA b0 sz nL k0 n0 σ) : am_G p l e R s m args below meth c Q D dA b0 sz nL k0 n0 ((pc, ins, a, b, v, sw) :: is, lv, st, h) := by
  intro pc' hpc H locs ls hP hS hl
  obtain rfl : pc = pc' := hpc
  obtain ⟨hx, hb, hml, hown, hts, hr, hlk, hini, hK⟩ := C
  cases ins <;> first
    | (exact absurd hq Bool.false_ne_true)
    | (simp only [am_vi, Bool.and_eq_true, decide_eq_true_eq] at hv)
  case iconst n =>
    cases hst
    obtain ⟨⟨hd, hnx⟩, rfl⟩ := hv
    exact lv_iconst hx hb (am_dc_ok hd) rfl (kk _ hnx H locs ls hP hS hl)
  case bipush n =>
    cases hst
    obtain ⟨⟨hd, hnx⟩, rfl⟩ := hv
    exact lv_bipush hx hb (am_dc_ok hd) rfl (kk _ hnx H locs ls hP hS hl)
  case sipush n =>
    cases hst
    obtain ⟨⟨hd, hnx⟩, rfl⟩ := hv
    exact lv_sipush hx hb (am_dc_ok hd) rfl (kk _ hnx H locs ls hP hS hl)
  case lconst n =>
    cases hst
    obtain ⟨⟨hd, hnx⟩, rfl⟩ := hv
    exact lv_lconst hx hb (am_dc_ok hd) rfl (kk _ hnx H locs ls hP hS hl)
  case ldc i =>
    cases hst
    obtain ⟨⟨hd, hnx⟩, hc⟩ := hv
    obtain ⟨x, rfl, hw⟩ := am_ki_at hc
    exact lv_ldc hx hb hown (hts _ hw) (am_dc_ok hd) (kk _ hnx H locs ls hP hS hl)
  case ldc2_w i =>
    cases hst
    obtain ⟨⟨hd, hnx⟩, hc⟩ := hv
    obtain ⟨x, rfl, hw⟩ := am_kl_at hc
    exact lv_ldc2 hx hb hown (hts _ hw) (am_dc_ok hd) (kk _ hnx H locs ls hP hS hl)
  case iload i =>
    simp only [am_ex] at hst
    split at hst
    · rename_i x hx1
      cases hst
      exact lv_iload hx hb (am_dc_ok hv.1) (hl.at hx1) (kk _ hv.2 H locs ls hP hS hl)
    · cases hst
  case iload_n i =>
    simp only [am_ex] at hst
    split at hst
    · rename_i x hx1
      cases hst
      exact lv_iload_n hx hb (am_dc_ok hv.1) rfl (hl.at hx1) (kk _ hv.2 H locs ls hP hS hl)
    · cases hst
  case lload i =>
    simp only [am_ex] at hst
    split at hst
    · rename_i x hx1
      cases hst
      exact lv_lload hx hb (am_dc_ok hv.1) (hl.at hx1) (kk _ hv.2 H locs ls hP hS hl)
    · cases hst
  case lload_n i =>
    simp only [am_ex] at hst
    split at hst
    · rename_i x hx1
      cases hst
      exact lv_lload_n hx hb (am_dc_ok hv.1) rfl (hl.at hx1) (kk _ hv.2 H locs ls hP hS hl)
    · cases hst
  case aload i =>
    simp only [am_ex] at hst
    split at hst
    · rename_i x hx1
      cases hst
      have h1 := hl.at hx1
      cases x with
      | zero => exact lv_aload hx hb (am_dc_ok hv.1) h1 (kk _ hv.2 H locs ls hP hS hl)
      | succ k => exact lv_aload hx hb (am_dc_ok hv.1) h1 (kk _ hv.2 H locs ls hP hS hl)
    · cases hst
  case aload_n i =>
    simp only [am_ex] at hst
    split at hst
    · rename_i x hx1
      cases hst
      have h1 := hl.at hx1
      cases x with
      | zero => exact lv_aload_n hx hb (am_dc_ok hv.1) rfl h1 (kk _ hv.2 H locs ls hP hS hl)
      | succ k => exact lv_aload_n hx hb (am_dc_ok hv.1) rfl h1 (kk _ hv.2 H locs ls hP hS hl)
    · cases hst
  case istore i =>
    simp only [am_ex] at hst
    split at hst
    · rename_i x st'
      cases hs : am_st1 lv i (.int x) with
      | none => rw [hs] at hst; cases hst
      | some lv' =>
        rw [hs] at hst
        cases hst
        exact lv_istore hx hb (am_dc_ok hv.1) hl.has (by rw [← hl.2.1]; exact (am_st1_spec _ _ _ _ hs).1) rfl (fun ls' h' => kk _ hv.2 H locs ls' hP hS (hl.st1 hs h'))
    · cases hst
  case istore_n i =>
    simp only [am_ex] at hst
    split at hst
    · rename_i x st'
      cases hs : am_st1 lv i (.int x) with
      | none => rw [hs] at hst; cases hst
      | some lv' =>
        rw [hs] at hst
        cases hst
        exact lv_istore_n hx hb (am_dc_ok hv.1) rfl hl.has (by rw [← hl.2.1]; exact (am_st1_spec _ _ _ _ hs).1) rfl (fun ls' h' => kk _ hv.2 H locs ls' hP hS (hl.st1 hs h'))
    · cases hst
  case astore i =>
    simp only [am_ex] at hst
    split at hst
    · rename_i x st'
      cases hs : am_st1 lv i (.ref x) with
      | none => rw [hs] at hst; cases hst
      | some lv' =>
        rw [hs] at hst
        cases hst
        cases x with
        | zero => exact lv_astore hx hb (am_dc_ok hv.1) hl.has (by rw [← hl.2.1]; exact (am_st1_spec _ _ _ _ hs).1) rfl (fun ls' h' => kk _ hv.2 H locs ls' hP hS (hl.st1 hs h'))
        | succ k => exact lv_astore hx hb (am_dc_ok hv.1) hl.has (by rw [← hl.2.1]; exact (am_st1_spec _ _ _ _ hs).1) rfl (fun ls' h' => kk _ hv.2 H locs ls' hP hS (hl.st1 hs h'))
    · cases hst
  case astore_n i =>
    simp only [am_ex] at hst
    split at hst
    · rename_i x st'
      cases hs : am_st1 lv i (.ref x) with
      | none => rw [hs] at hst; cases hst
      | some lv' =>
        rw [hs] at hst
        cases hst
        cases x with
        | zero => exact lv_astore_n hx hb (am_dc_ok hv.1) rfl hl.has (by rw [← hl.2.1]; exact (am_st1_spec _ _ _ _ hs).1) rfl (fun ls' h' => kk _ hv.2 H locs ls' hP hS (hl.st1 hs h'))
        | succ k => exact lv_astore_n hx hb (am_dc_ok hv.1) rfl hl.has (by rw [← hl.2.1]; exact (am_st1_spec _ _ _ _ hs).1) rfl (fun ls' h' => kk _ hv.2 H locs ls' hP hS (hl.st1 hs h'))
    · cases hst
  case lstore i =>
    simp only [am_ex] at hst
    split at hst
    · rename_i x st'
      cases hs : am_st2 lv i (.long x) with
      | none => rw [hs] at hst; cases hst
      | some lv' =>
        rw [hs] at hst
        cases hst
        exact lv_lstore hx hb (am_dc_ok hv.1) hl.has (by rw [← hl.2.1]; exact (am_st2_spec _ _ _ _ hs).1) rfl (fun ls' h' => kk _ hv.2 H locs ls' hP hS (hl.st2 hs h'))
    · cases hst
  case lstore_n i =>
    simp only [am_ex] at hst
    split at hst
    · rename_i x st'
      cases hs : am_st2 lv i (.long x) with
      | none => rw [hs] at hst; cases hst
      | some lv' =>
        rw [hs] at hst
        cases hst
        exact lv_lstore_n hx hb (am_dc_ok hv.1) rfl hl.has (by rw [← hl.2.1]; exact (am_st2_spec _ _ _ _ hs).1) rfl (fun ls' h' => kk _ hv.2 H locs ls' hP hS (hl.st2 hs h'))
    · cases hst
  case iinc i n =>
    obtain ⟨⟨hd, hnx⟩, rfl⟩ := hv
    simp only [am_ex] at hst
    split at hst
    · rename_i x y hx1 hy1
      cases hy1
      cases hs : am_st1 lv i (.int (x + Int32.ofInt n)) with
      | none => rw [hs] at hst; cases hst
      | some lv' =>
        rw [hs] at hst
        cases hst
        obtain ⟨k, hk⟩ := hl.pair hx1
        exact lv_iinc hx hb (am_dc_ok hd) hl.has hk rfl (by rw [← hl.2.1]; exact (am_st1_spec _ _ _ _ hs).1) rfl (fun ls' h' => kk _ hnx H locs ls' hP hS (hl.st1 hs h'))
    · cases hst
def am_pl2 : Instr → Bool
  | .iadd | .isub | .imul | .iand | .ishr | .idiv | .irem | .ladd | .lsub | .land | .lor | .lcmp | .lshl | .i2l | .l2i | .dup | .pop | .dup2 => true
  | _ => false
theorem am_c2_ii {g : Int32 → Int32 → Option Value} (hst : am_c2 is lv h (am_ii g) st = some (.inl σ)) : ∃ x y z st', st = .int y :: .int x :: st' ∧ g x y = some z ∧ σ = (is, lv, z :: st', h) := by
  unfold am_c2 at hst
  split at hst
  · rename_i y x st'
    split at hst
    · rename_i z hz
      cases hst
      unfold am_ii at hz
      split at hz
      · exact ⟨_, _, _, _, rfl, hz, rfl⟩
      · cases hz
    · cases hst
  · cases hst
theorem am_c2_ll {g : Int64 → Int64 → Option Value} (hst : am_c2 is lv h (am_ll g) st = some (.inl σ)) : ∃ x y z st', st = .long y :: .long x :: st' ∧ g x y = some z ∧ σ = (is, lv, z :: st', h) := by
  unfold am_c2 at hst
  split at hst
  · rename_i y x st'
    split at hst
    · rename_i z hz
      cases hst
      unfold am_ll at hz
      split at hz
      · exact ⟨_, _, _, _, rfl, hz, rfl⟩
      · cases hz
    · cases hst
  · cases hst
set_option maxHeartbeats 4000000 in
theorem am_one2 (C : am_C D dA o cc nL rt ini p s m args meth c) (hq : am_pl2 ins = true) (hst : am_ex f cd ins a b v sw is lv st h = some (.inl σ)) (hv : am_vi o ini rt cc (pc, ins, a, b, v, sw) (am_pc is) = true) (kk : am_G p l e R s m args below meth c Q D dA b0 sz nL k0 n0 σ) : am_G p l e R s m args below meth c Q D dA b0 sz nL k0 n0 ((pc, ins, a, b, v, sw) :: is, lv, st, h) := by
  intro pc' hpc H locs ls hP hS hl
  obtain rfl : pc = pc' := hpc
  obtain ⟨hx, hb, hml, hown, hts, hr, hlk, hini, hK⟩ := C
  cases ins <;> first
    | (exact absurd hq Bool.false_ne_true)
    | (simp only [am_vi, Bool.and_eq_true, decide_eq_true_eq] at hv)
  case iadd =>
    obtain ⟨x, y, z, st', rfl, hz, rfl⟩ := am_c2_ii hst
    cases hz
    exact lv_iadd hx hb (am_dc_ok hv.1) (kk _ hv.2 H locs ls hP hS hl)
  case isub =>
    obtain ⟨x, y, z, st', rfl, hz, rfl⟩ := am_c2_ii hst
    cases hz
    exact lv_isub hx hb (am_dc_ok hv.1) (kk _ hv.2 H locs ls hP hS hl)
  case imul =>
    obtain ⟨x, y, z, st', rfl, hz, rfl⟩ := am_c2_ii hst
    cases hz
    exact lv_imul hx hb (am_dc_ok hv.1) (kk _ hv.2 H locs ls hP hS hl)
  case iand =>
    obtain ⟨x, y, z, st', rfl, hz, rfl⟩ := am_c2_ii hst
    cases hz
    exact lv_iand hx hb (am_dc_ok hv.1) (kk _ hv.2 H locs ls hP hS hl)
  case ishr =>
    obtain ⟨x, y, z, st', rfl, hz, rfl⟩ := am_c2_ii hst
    cases hz
    exact lv_ishr hx hb (am_dc_ok hv.1) (kk _ hv.2 H locs ls hP hS hl)
  case idiv =>
    obtain ⟨x, y, z, st', rfl, hz, rfl⟩ := am_c2_ii hst
    split at hz
    · cases hz
    · rename_i hne
      cases hz
      exact lv_idiv hx hb (am_dc_ok hv.1) hne (kk _ hv.2 H locs ls hP hS hl)
  case irem =>
    obtain ⟨x, y, z, st', rfl, hz, rfl⟩ := am_c2_ii hst
    split at hz
    · cases hz
    · rename_i hne
      cases hz
      exact lv_irem hx hb (am_dc_ok hv.1) hne (kk _ hv.2 H locs ls hP hS hl)
  case ladd =>
    obtain ⟨x, y, z, st', rfl, hz, rfl⟩ := am_c2_ll hst
    cases hz
    exact lv_ladd hx hb (am_dc_ok hv.1) (kk _ hv.2 H locs ls hP hS hl)
  case lsub =>
    obtain ⟨x, y, z, st', rfl, hz, rfl⟩ := am_c2_ll hst
    cases hz
    exact lv_lsub hx hb (am_dc_ok hv.1) (kk _ hv.2 H locs ls hP hS hl)
  case land =>
    obtain ⟨x, y, z, st', rfl, hz, rfl⟩ := am_c2_ll hst
    cases hz
    exact lv_land hx hb (am_dc_ok hv.1) (kk _ hv.2 H locs ls hP hS hl)
  case lor =>
    obtain ⟨x, y, z, st', rfl, hz, rfl⟩ := am_c2_ll hst
    cases hz
    exact lv_lor hx hb (am_dc_ok hv.1) (kk _ hv.2 H locs ls hP hS hl)
  case lcmp =>
    obtain ⟨x, y, z, st', rfl, hz, rfl⟩ := am_c2_ll hst
    cases hz
    exact W.lcmp hx hb (am_dc_ok hv.1) (kk _ hv.2 H locs ls hP hS hl)
  case lshl =>
    simp only [am_ex] at hst
    split at hst
    · cases hst
      exact lv_lshl hx hb (am_dc_ok hv.1) rfl (kk _ hv.2 H locs ls hP hS hl)
    · cases hst
  case i2l =>
    simp only [am_ex] at hst
    split at hst
    · cases hst
      exact lv_i2l hx hb (am_dc_ok hv.1) rfl (kk _ hv.2 H locs ls hP hS hl)
    · cases hst
  case l2i =>
    simp only [am_ex] at hst
    split at hst
    · cases hst
      exact lv_l2i hx hb (am_dc_ok hv.1) rfl (kk _ hv.2 H locs ls hP hS hl)
    · cases hst
  case dup =>
    simp only [am_ex] at hst
    split at hst
    · split at hst
      · rename_i h1
        cases hst
        exact lv_dup hx hb (am_dc_ok hv.1) (by rw [am_rl_cat]; exact h1) (kk _ hv.2 H locs ls hP hS hl)
      · cases hst
    · cases hst
  case pop =>
    simp only [am_ex] at hst
    split at hst
    · split at hst
      · rename_i h1
        cases hst
        exact lv_pop hx hb (am_dc_ok hv.1) (by rw [am_rl_cat]; exact h1) (kk _ hv.2 H locs ls hP hS hl)
      · cases hst
    · cases hst
  case dup2 =>
    simp only [am_ex] at hst
    split at hst
    · split at hst
      · rename_i h1
        cases hst
        exact lv_dup2_11 hx hb (am_dc_ok hv.1) (by rw [am_rl_cat]; exact h1.1) (by rw [am_rl_cat]; exact h1.2) (kk _ hv.2 H locs ls hP hS hl)
      · cases hst
    · cases hst
def am_pl3 : Instr → Bool
  | .ifCond _ _ | .if_icmp _ _ | .goto _ | .tableswitch _ _ _ _ | .lookupswitch _ _ => true
  | _ => false
set_option maxHeartbeats 4000000 in
theorem am_one3 (C : am_C D dA o cc nL rt ini p s m args meth c) (hq : am_pl3 ins = true) (hst : am_ex f cd ins a b v sw is lv st h = some (.inl σ)) (hv : am_vi o ini rt cc (pc, ins, a, b, v, sw) (am_pc is) = true) (hne : σ.1 ≠ []) (kk : am_G p l e R s m args below meth c Q D dA b0 sz nL k0 n0 σ) : am_G p l e R s m args below meth c Q D dA b0 sz nL k0 n0 ((pc, ins, a, b, v, sw) :: is, lv, st, h) := by
  intro pc' hpc H locs ls hP hS hl
  obtain rfl : pc = pc' := hpc
  obtain ⟨hx, hb, hml, hown, hts, hr, hlk, hini, hK⟩ := C
  cases ins <;> first
    | (exact absurd hq Bool.false_ne_true)
    | (simp only [am_vi, Bool.and_eq_true, decide_eq_true_eq] at hv)
  case goto off =>
    cases hst
    exact lv_goto hx hb (am_dc_ok hv.1) hv.2 (kk _ (am_jmp_pc a cd hne) H locs ls hP hS hl)
  case ifCond q off =>
    obtain ⟨⟨hd, hnx⟩, ht⟩ := hv
    simp only [am_ex] at hst
    split at hst
    · rename_i x st'
      cases hst
      have kt : am_cc q x 0 = true → W p l e R s m args below meth c H locs (h.1 - k0) (h.2.1 - n0) Q (F0 m a ls (st'.map (am_rl b0 sz))) := fun hc => kk _ (by show am_pc (if am_cc q x 0 = true then am_jmp cd a else is) = a; rw [if_pos hc]; exact am_jmp_pc a cd (by simpa [hc] using hne)) H locs ls hP hS hl
      have kf : ¬ am_cc q x 0 = true → W p l e R s m args below meth c H locs (h.1 - k0) (h.2.1 - n0) Q (F0 m (pc + 3) ls (st'.map (am_rl b0 sz))) := fun hc => kk _ (by show am_pc (if am_cc q x 0 = true then am_jmp cd a else is) = _; rw [if_neg hc]; exact hnx) H locs ls hP hS hl
      cases q
      · exact lv_if_eq hx hb (am_dc_ok hd) ht (fun g => kt (by simpa [am_cc] using g)) (fun g => kf (by simpa [am_cc] using g))
      · exact lv_if_ne hx hb (am_dc_ok hd) ht (fun g => kt (by simpa [am_cc] using g)) (fun g => kf (by simpa [am_cc] using g))
      · exact lv_if_lt hx hb (am_dc_ok hd) ht (fun g => kt (by simpa [am_cc] using g)) (fun g => kf (by simpa [am_cc] using g))
      · exact lv_if_ge hx hb (am_dc_ok hd) ht (fun g => kt (by simpa [am_cc] using g)) (fun g => kf (by simpa [am_cc] using g))
      · exact lv_if_gt hx hb (am_dc_ok hd) ht (fun g => kt (by simpa [am_cc] using g)) (fun g => kf (by simpa [am_cc] using g))
      · exact lv_if_le hx hb (am_dc_ok hd) ht (fun g => kt (by simpa [am_cc] using g)) (fun g => kf (by simpa [am_cc] using g))
    · cases hst
  case if_icmp q off =>
    obtain ⟨⟨hd, hnx⟩, ht⟩ := hv
    simp only [am_ex] at hst
    split at hst
    · rename_i y x st'
      cases hst
      have kt : am_cc q x y = true → W p l e R s m args below meth c H locs (h.1 - k0) (h.2.1 - n0) Q (F0 m a ls (st'.map (am_rl b0 sz))) := fun hc => kk _ (by show am_pc (if am_cc q x y = true then am_jmp cd a else is) = a; rw [if_pos hc]; exact am_jmp_pc a cd (by simpa [hc] using hne)) H locs ls hP hS hl
      have kf : ¬ am_cc q x y = true → W p l e R s m args below meth c H locs (h.1 - k0) (h.2.1 - n0) Q (F0 m (pc + 3) ls (st'.map (am_rl b0 sz))) := fun hc => kk _ (by show am_pc (if am_cc q x y = true then am_jmp cd a else is) = _; rw [if_neg hc]; exact hnx) H locs ls hP hS hl
      cases q
      · exact lv_icmp_eq hx hb (am_dc_ok hd) ht (fun g => kt (by simpa [am_cc] using g)) (fun g => kf (by simpa [am_cc] using g))
      · exact lv_icmp_ne hx hb (am_dc_ok hd) ht (fun g => kt (by simpa [am_cc] using g)) (fun g => kf (by simpa [am_cc] using g))
      · exact lv_icmp_lt hx hb (am_dc_ok hd) ht (fun g => kt (by simpa [am_cc] using g)) (fun g => kf (by simpa [am_cc] using g))
      · exact lv_icmp_ge hx hb (am_dc_ok hd) ht (fun g => kt (by simpa [am_cc] using g)) (fun g => kf (by simpa [am_cc] using g))
      · exact lv_icmp_gt hx hb (am_dc_ok hd) ht (fun g => kt (by simpa [am_cc] using g)) (fun g => kf (by simpa [am_cc] using g))
      · exact lv_icmp_le hx hb (am_dc_ok hd) ht (fun g => kt (by simpa [am_cc] using g)) (fun g => kf (by simpa [am_cc] using g))
    · cases hst
  case lookupswitch d ps =>
    obtain ⟨⟨⟨hd, ht⟩, hk⟩, hp⟩ := hv
    obtain ⟨len, hd⟩ := am_dx_ok hd
    simp only [am_ex] at hst
    split at hst
    · rename_i x st'
      cases hst
      exact lv_lookup hx hb hd hp rfl (am_lks_ok pc a d ht x ps.toList sw hk) (kk _ (am_jmp_pc _ cd hne) H locs ls hP hS hl)
    · cases hst
  case tableswitch d lo hi offs =>
    obtain ⟨hd, ht⟩ := hv
    obtain ⟨len, hd⟩ := am_dx_ok hd
    simp only [am_tsw, Bool.and_eq_true, decide_eq_true_eq] at ht
    obtain ⟨⟨⟨ht, hhi⟩, hlen⟩, hall⟩ := ht
    have hall' : ∀ i, i < offs.toList.length → ∃ k t w, sw[i]? = some (k, t) ∧ offs.toList[i]? = some w ∧ k.toInt = lo + i ∧ (pc : Int) + w = (t : Int) := by
      intro i hi
      have h1 := List.all_eq_true.mp hall i (List.mem_range.mpr hi)
      split at h1
      · rename_i k t w e1 e2
        simp only [Bool.and_eq_true, decide_eq_true_eq] at h1
        exact ⟨k, t, w, e1, e2, h1.1, h1.2⟩
      · cases h1
    have hkey : ∀ (i : Nat) (q : Int32 × Nat), sw[i]? = some q → q.1.toInt = lo + i := by
      intro i q hq
      have hi : i < offs.toList.length := by rw [← hlen]; exact (List.getElem?_eq_some_iff.mp hq).1
      obtain ⟨k, t, w, e1, e2, e3, e4⟩ := hall' i hi
      rw [hq] at e1
      cases e1
      exact e3
    simp only [am_ex] at hst
    split at hst
    · rename_i x st'
      cases hst
      have kj := kk _ (am_jmp_pc _ cd hne) H locs ls hP hS hl
      by_cases hin : lo ≤ x.toInt ∧ x.toInt < lo + sw.length
      · obtain ⟨q, g1, g2⟩ := am_sw_in a x sw lo hkey hin.1 hin.2
        have hi : (x.toInt - lo).toNat < offs.toList.length := by rw [← hlen]; exact (List.getElem?_eq_some_iff.mp g1).1
        obtain ⟨k, t, w, e1, e2, e3, e4⟩ := hall' _ hi
        rw [g1] at e1
        cases e1
        rw [g2] at kj
        refine lv_tableIn hx hb hd (by omega) (by omega) (off := w) ?_ e4 kj
        rw [← Array.getElem?_toList]
        exact e2
      · have g := am_sw_out a x sw lo hkey (by omega)
        rw [g] at kj
        exact lv_tableOut hx hb hd (by omega) ht kj
    · cases hst
end AMA
end
section
/-! The steps that read and write places, and that make them. -/
section AMH
variable {p : Program} {l : Launch} {e : Env} {R : Room} {s : State} {m : MethodId} {args : Array Value} {below : List Frame} {meth : Method} {c : Code} {H : Heap} {locs : List Loc} {cells slots : Nat} {Q : State → Prop} {D : va_G} {dA : FieldType → ClassId} {b0 sz nL k0 n0 o : Nat} {cc : ByteArray} {rt : Option FieldType} {ini : Bool} {f : am_F} {cd : List am_I} {pc a b : Nat} {ins : Instr} {v : Value} {sw : List (Int32 × Nat)} {is : List am_I} {lv : am_L} {st : List Value} {h : am_H} {σ : am_S} {ls : Array Slot} {rest : List Value}
theorem am_one_P {q : Nat × va_E} (h : va_at D vwCl q H) : va_P D vwCl [q] H := fun k x hx => by
  have hz : k < 1 := (List.getElem?_eq_some_iff.mp hx).1
  rw [show k = 0 by omega] at hx
  cases hx
  exact h
theorem am_P.obj {U : State} {r cI : Nat} {fs : List Value} (hP : am_P D dA b0 sz h U H) (hr : h.2.2 r = some (.inr (cI, fs))) : ∃ k, r = k + 1 ∧ va_at D vwCl (sz + k, .inr (cI, fs.map (am_rl b0 sz))) H := by
  cases r with
  | zero => obtain ⟨L, xs, e, -⟩ := hP.2.2 _ hr; cases e
  | succ k => exact ⟨k, rfl, hP.2.1 k _ hr⟩
theorem am_K.int (hK : am_K D dA s) : ArrOfT s (dA .int) .int := (hK.1.2 0 _ rfl).1
theorem am_K.long (hK : am_K D dA s) : ArrOfT s (dA .long) .long := (hK.1.2 1 _ rfl).1
theorem am_K.bool (hK : am_K D dA s) : ArrOfT s (dA .boolean) .boolean := (hK.1.2 2 _ rfl).1
theorem am_putW (hx : p.tables.exec = Jvm.exec) (hb : c.code = cc) (hts : ∀ w ∈ am_tb, w.before args s = true) (hown : s.vm.findClass (am_cn o) = some m.cls) (hK : am_K D dA s) {j i q : Nat} (ha : a < 6) (hj : j < am_N a) (hlink : Cond.fieldLink (am_cn o) i (am_T a j).1 (am_T a j).2.1 (am_T a j).2.2.1 ∈ am_tb) (hfin : (am_T a j).2.2.2 = false ∨ (meth.name = "<init>" ∧ (am_T a j).1 = am_cn o)) {fs : List Value} (he : va_at D vwCl (q, .inr (a, fs)) H) (hn : narrow (am_ty a j) v = v) (hfit : fits (am_ty a j) v = true) (hl : j < fs.length) (hdg : decode cc pc = .ok (.putfield i, 3))
    (kk : ∀ (H1 : Heap) (z : Nat), va_at D vwCl (q, .inr (a, fs.set j v)) H1 → H1.size = H.size → (∀ x : Nat, x ≠ q → H1[x]? = H[x]?) → W p l e R s m args below meth c H1 (locs ++ [⟨q, z⟩]) cells slots Q (F0 m (pc + 3) ls rest)) : W p l e R s m args below meth c H locs cells slots Q (F0 m pc ls (v :: .ref q :: rest)) := by
  obtain ⟨hc, hin, hty, hnm⟩ := am_cls a ha
  have hap := va_apart (own := am_cn o) hts hin (am_ty a) hty hnm hK.1 hc
  obtain ⟨r, h1, cell, q1, q2, q3, q4⟩ := he
  have hr : r = (am_cn a, am_T a, am_N a) := Option.some.inj (h1.symm.trans hc)
  subst hr
  obtain ⟨hS, hfc, kC, hkC, hkind⟩ := hK.1.1 a _ hc
  obtain ⟨cf, kf, fi, f, hi, hsl⟩ := hS j hj
  have hlay := hts _ (hin _ (u_in_lay hj))
  have hst := (u_facts hfc hkC (u_lays hts hin hj) hi).1
  unfold u_lay at hlay
  rcases hfin with hfin | ⟨hin2, hdecl⟩
  · rw [if_neg (by rw [hfin]; decide)] at hlay
    have h6 := u_store hfc hkC hkind hlay hi (hty j hj) hn hfit
    refine W.putK hx hb (f := f) ⟨hown, hts _ hlink, ⟨_, _, _, hi⟩, hst⟩ (by rw [q2]; exact h6) q1 q3 (by rw [hsl]; exact k2_hasslot (q4 j hj)) rfl rfl hdg fun H' e1 e2 e3 => ?_
    rw [hsl] at e1 ⊢
    exact kk H' _ ⟨_, hc, t_OB.to (V := updV (vp_V fs) j v) ⟨_, e1, q2, q3, t_set q4 hap hj v⟩ (fun j _ => vp_updV_set hl v j)⟩ e2 e3
  · by_cases hff : (am_T a j).2.2.2 = true
    · rw [if_pos hff] at hlay
      have hcf : m.cls = cf := by
        obtain ⟨_, _, c', _, _, _, -, -, hf', -, -, -, hown2, -⟩ := Cond.laysFinal_spec hlay
        have e1 : c' = cf := by have := hi.symm.trans hf'; simp at this; exact this.1.symm
        rw [hdecl] at hown2
        rw [← e1]; exact Option.some.inj (hown.symm.trans hown2)
      have h6 := u_fits hfc hkC hkind (Or.inr hlay) hi (hty j hj) hn hfit
      refine W.putFinK hx hb hown (hts _ hlink) hi hst hcf hin2 (by rw [q2]; exact h6) q1 q3 (by rw [hsl]; exact k2_hasslot (q4 j hj)) rfl rfl hdg fun H' e1 e2 e3 => ?_
      rw [hsl] at e1 ⊢
      exact kk H' _ ⟨_, hc, t_OB.to (V := updV (vp_V fs) j v) ⟨_, e1, q2, q3, t_set q4 hap hj v⟩ (fun j _ => vp_updV_set hl v j)⟩ e2 e3
    · rw [if_neg hff] at hlay
      have h6 := u_store hfc hkC hkind hlay hi (hty j hj) hn hfit
      refine W.putK hx hb (f := f) ⟨hown, hts _ hlink, ⟨_, _, _, hi⟩, hst⟩ (by rw [q2]; exact h6) q1 q3 (by rw [hsl]; exact k2_hasslot (q4 j hj)) rfl rfl hdg fun H' e1 e2 e3 => ?_
      rw [hsl] at e1 ⊢
      exact kk H' _ ⟨_, hc, t_OB.to (V := updV (vp_V fs) j v) ⟨_, e1, q2, q3, t_set q4 hap hj v⟩ (fun j _ => vp_updV_set hl v j)⟩ e2 e3
def am_nr : Value → Bool
  | .ref _ => false
  | _ => true
theorem am_rl_nr {v : Value} (h : am_nr v = true) : am_rl b0 sz v = v := by
  cases v <;> first | rfl | (cases h; done)
theorem am_df_nr (a : Nat) : ∀ v ∈ am_df a, am_nr v = true := by
  unfold am_df
  split <;> decide
def am_pl4 : Instr → Bool
  | .getfield _ | .putfield _ | .iaload | .baload | .laload | .iastore | .bastore | .lastore | .arraylength | .newarray _ | .new _ => true
  | _ => false
theorem am_nar_bool {x : Int32} (h : x = 0 ∨ x = 1) : narrow .boolean (.int x) = .int x := by
  rcases h with rfl | rfl <;> decide +kernel
set_option maxHeartbeats 8000000 in
theorem am_one4 (hbs : b0 < sz) (C : am_C D dA o cc nL rt ini p s m args meth c) (hq : am_pl4 ins = true) (hst : am_ex f cd ins a b v sw is lv st h = some (.inl σ)) (hv : am_vi o ini rt cc (pc, ins, a, b, v, sw) (am_pc is) = true) (hk0 : k0 ≤ h.1) (hn0 : n0 ≤ h.2.1) (hR : σ.2.2.2.1 - k0 ≤ R.cells ∧ σ.2.2.2.2.1 - n0 ≤ R.slots) (kk : am_G p l e R s m args below meth c Q D dA b0 sz nL k0 n0 σ) : am_G p l e R s m args below meth c Q D dA b0 sz nL k0 n0 ((pc, ins, a, b, v, sw) :: is, lv, st, h) := by
  intro pc' hpc H locs ls hP hS hl
  obtain rfl : pc = pc' := hpc
  obtain ⟨hx, hb, hml, hown, hts, hr, hlk, hini, hK⟩ := C
  dsimp only at hP hl
  cases ins <;> first
    | (exact absurd hq Bool.false_ne_true)
    | (simp only [am_vi, Bool.and_eq_true, decide_eq_true_eq] at hv)
  case getfield i =>
    obtain ⟨⟨hd, hnx⟩, hfl⟩ := hv
    obtain ⟨ha, hj, hw⟩ := am_fl_at hfl
    obtain ⟨hc, hin, -, -⟩ := am_cls a ha
    simp only [am_ex] at hst
    split at hst
    · rename_i r st'
      split at hst
      · rename_i w hw2
        cases hst
        unfold am_gf at hw2
        split at hw2
        · rename_i c' fs he
          split at hw2
          · rename_i hcc
            subst hcc
            obtain ⟨k, rfl, hat⟩ := hP.obj he
            exact va_get hx hb hts hin hown hK.1 (am_one_P hat) 0 rfl hc b hj (hts _ hw) (fun _ h9 => h9) (v := am_rl b0 sz w) (by rw [List.getElem?_map, hw2]; rfl) (am_dc_ok hd) (kk _ hnx H locs ls hP hS hl)
          · cases hw2
        · cases hw2
      · cases hst
    · cases hst
  case putfield i =>
    obtain ⟨⟨⟨hd, hnx⟩, hfl⟩, hfi⟩ := hv
    obtain ⟨ha, hj, hw⟩ := am_fl_at hfl
    simp only [am_ex] at hst
    split at hst
    · rename_i w r st'
      split at hst
      · rename_i hnf
        split at hst
        · rename_i h' hw2
          cases hst
          unfold am_pf at hw2
          split at hw2
          · rename_i c' fs he
            split at hw2
            · rename_i hcc
              obtain ⟨rfl, hlen⟩ := hcc
              cases hw2
              obtain ⟨k, rfl, hat⟩ := hP.obj he
              have hnf' : narrow (am_ty c' b) (am_rl b0 sz w) = am_rl b0 sz w ∧ fits (am_ty c' b) (am_rl b0 sz w) = true := by
                cases w with
                | ref z =>
                  have h2 : ∀ y : Nat, narrow (am_ty c' b) (.ref y) = .ref y ∧ fits (am_ty c' b) (.ref y) = true := by
                    intro y
                    have h1 := hnf.2
                    cases ht : am_ty c' b <;> rw [ht] at h1 <;> first | (cases h1; done) | exact ⟨rfl, rfl⟩
                  cases z <;> exact h2 _
                | _ => exact hnf
              have hfin : (am_T c' b).2.2.2 = false ∨ (meth.name = "<init>" ∧ (am_T c' b).1 = am_cn o) := by
                simp only [Bool.or_eq_true, Bool.not_eq_true', Bool.and_eq_true, decide_eq_true_eq] at hfi
                rcases hfi with h1 | h1
                · exact Or.inl h1
                · exact Or.inr ⟨hini h1.1, h1.2⟩
              exact am_putW hx hb hts hown hK ha hj hw hfin hat hnf'.1 hnf'.2 (by rw [List.length_map]; exact hlen) (am_dc_ok hd) (fun H1 z g1 g2 g3 => kk _ hnx H1 _ ls (hP.up hbs he g2 g3 (by rw [← List.map_set] at g1; exact g1)) (hS.put g2 g3 (Nat.le_add_right _ _)) hl)
            · cases hw2
          · cases hw2
        · cases hst
      · cases hst
    · cases hst
  case iaload =>
    simp only [am_ex] at hst
    split at hst
    · rename_i i r st'
      split at hst
      · rename_i w hw2
        cases hst
        unfold am_gi at hw2
        split at hw2
        · rename_i n g he
          split at hw2
          · cases hw2
          · rename_i hir
            cases hw2
            cases r with
            | zero =>
              obtain ⟨L, xs, e1, hX⟩ := hP.2.2 _ he
              cases e1
              obtain ⟨scr, h1, h2, h3, h4, h5⟩ := hX
              have hlt : i.toNatClampNeg < n := Nat.not_le.mp fun q => hir (Or.inr q)
              exact W.iald (v := .int (g i.toNatClampNeg)) hx hb h1 h2 h3 (by rw [h4]; exact hir) (h5 _ hlt) rfl rfl (am_dc_ok hv.1) (kk _ hv.2 H locs ls hP hS hl)
            | succ k => exact va_iald hx hb hK.1 (am_one_P (hP.2.1 k _ he)) 0 0 rfl rfl hir (am_dc_ok hv.1) (kk _ hv.2 H locs ls hP hS hl)
        · cases hw2
      · cases hst
    · cases hst
  case baload =>
    simp only [am_ex] at hst
    split at hst
    · rename_i i r st'
      split at hst
      · rename_i w hw2
        cases hst
        unfold am_gz at hw2
        split at hw2
        · rename_i n g he
          split at hw2
          · cases hw2
          · rename_i hir
            cases hw2
            cases r with
            | zero => obtain ⟨L, xs, e1, hX⟩ := hP.2.2 _ he; cases e1
            | succ k => exact va_zald hx hb hK.1 (am_one_P (hP.2.1 k _ he)) 0 2 rfl rfl hir (am_dc_ok hv.1) (kk _ hv.2 H locs ls hP hS hl)
        · cases hw2
      · cases hst
    · cases hst
  case laload =>
    simp only [am_ex] at hst
    split at hst
    · rename_i i r st'
      split at hst
      · rename_i w hw2
        cases hst
        unfold am_gl at hw2
        split at hw2
        · rename_i n g he
          split at hw2
          · cases hw2
          · rename_i hir
            cases hw2
            cases r with
            | zero => obtain ⟨L, xs, e1, hX⟩ := hP.2.2 _ he; cases e1
            | succ k => exact va_lald hx hb hK.1 (am_one_P (hP.2.1 k _ he)) 0 1 rfl rfl hir (am_dc_ok hv.1) (kk _ hv.2 H locs ls hP hS hl)
        · cases hw2
      · cases hst
    · cases hst
  case iastore =>
    simp only [am_ex] at hst
    split at hst
    · rename_i x i r st'
      split at hst
      · rename_i h' hw2
        cases hst
        unfold am_pi at hw2
        split at hw2
        · rename_i n g he
          split at hw2
          · cases hw2
          · rename_i hir
            cases hw2
            cases r with
            | zero => exact absurd (Or.inl rfl) hir
            | succ k =>
              have hat := hP.2.1 k _ he
              have hir2 : ¬ (i < 0 ∨ n ≤ i.toNatClampNeg) := fun z => hir (Or.inr z)
              refine W.iast hx hb hat (hK.int n (fun j => .int (g j))) (fun q => by cases q) (by show ¬ (i < 0 ∨ (arrV _ _ _).slots.size ≤ _); rw [arrV_size]; exact hir2) rfl rfl (am_dc_ok hv.1) fun H1 e1 z oq => ?_
              refine kk _ hv.2 H1 _ ls (hP.up hbs he z oq ?_) (hS.put z oq (Nat.le_add_right _ _)) hl
              show H1[sz + k]? = some (vp_cell _ _)
              rw [e1]
              show some ((vp_cell (dA .int) (n, .inl g)).setSlot _ _) = _
              rw [vp_cell_i, vp_cell_i, arrV_store]
              congr 2
              funext q
              by_cases hq : q = i.toNatClampNeg
              · subst hq; simp [updV, upd]
              · simp [updV, upd, hq]
        · cases hw2
      · cases hst
    · cases hst
  case bastore =>
    simp only [am_ex] at hst
    split at hst
    · rename_i x i r st'
      split at hst
      · rename_i h' hw2
        cases hst
        unfold am_pz at hw2
        split at hw2
        · rename_i n g he
          split at hw2
          · cases hw2
          · rename_i hir
            cases hw2
            cases r with
            | zero => exact absurd (Or.inl (Or.inl rfl)) hir
            | succ k =>
              have hat := hP.2.1 k _ he
              have hir2 : ¬ (i < 0 ∨ n ≤ i.toNatClampNeg) := fun z => hir (Or.inl (Or.inr z))
              have hx01 : x = 0 ∨ x = 1 := Classical.not_not.mp fun z => hir (Or.inr z)
              refine W.zast hx hb hat (hK.bool n (fun j => .int (g j))) (fun q => by cases q) (by show ¬ (i < 0 ∨ (arrV _ _ _).slots.size ≤ _); rw [arrV_size]; exact hir2) rfl rfl (am_dc_ok hv.1) fun H1 e1 z oq => ?_
              refine kk _ hv.2 H1 _ ls (hP.up hbs he z oq ?_) (hS.put z oq (Nat.le_add_right _ _)) hl
              show H1[sz + k]? = some (vp_cell _ _)
              rw [e1, am_nar_bool hx01]
              show some ((vp_cell (dA .boolean) (n, .inl g)).setSlot _ _) = _
              rw [vp_cell_i, vp_cell_i, arrV_store]
              congr 2
              funext q
              by_cases hq : q = i.toNatClampNeg
              · subst hq; simp [updV, upd]
              · simp [updV, upd, hq]
        · cases hw2
      · cases hst
    · cases hst
  case lastore =>
    simp only [am_ex] at hst
    split at hst
    · rename_i x i r st'
      split at hst
      · rename_i h' hw2
        cases hst
        unfold am_pl at hw2
        split at hw2
        · rename_i n g he
          split at hw2
          · cases hw2
          · rename_i hir
            cases hw2
            cases r with
            | zero => exact absurd (Or.inl rfl) hir
            | succ k =>
              have hat := hP.2.1 k _ he
              have hir2 : ¬ (i < 0 ∨ n ≤ i.toNatClampNeg) := fun z => hir (Or.inr z)
              refine W.last hx hb hat (hK.long n (fun j => .long (g j))) (fun q => by cases q) (by show ¬ (i < 0 ∨ (arrV _ _ _).slots.size ≤ _); rw [arrV_size]; exact hir2) rfl rfl (am_dc_ok hv.1) fun H1 e1 z oq => ?_
              refine kk _ hv.2 H1 _ ls (hP.up hbs he z oq ?_) (hS.put z oq (Nat.le_add_right _ _)) hl
              show H1[sz + k]? = some (vp_cell _ _)
              rw [e1]
              show some ((vp_cell (dA .long) (n, .inr (.inl g))).setSlot _ _) = _
              rw [vp_cell_l, vp_cell_l, arrV_store]
              congr 2
              funext q
              by_cases hq : q = i.toNatClampNeg
              · subst hq; simp [updV, vp_updL]
              · simp [updV, vp_updL, hq]
        · cases hw2
      · cases hst
    · cases hst
  case arraylength =>
    simp only [am_ex] at hst
    split at hst
    · rename_i r st'
      split at hst
      · rename_i n hw2
        cases hst
        unfold am_ln at hw2
        split at hw2
        · rename_i n' g he
          cases hw2
          cases r with
          | zero =>
            obtain ⟨L, xs, e1, hX⟩ := hP.2.2 _ he
            cases e1
            obtain ⟨scr, h1, h2, h3, h4, h5⟩ := hX
            exact W.alen (n := Int32.ofNat _) hx hb h1 h2 (by rw [h4] <;> rfl) rfl rfl (am_dc_ok hv.1) (kk _ hv.2 H locs ls hP hS hl)
          | succ k => exact va_alen hx hb hK.1 (am_one_P (hP.2.1 k _ he)) 0 0 rfl rfl rfl (am_dc_ok hv.1) (kk _ hv.2 H locs ls hP hS hl)
        · rename_i n' g he
          cases hw2
          cases r with
          | zero => obtain ⟨L, xs, e1, hX⟩ := hP.2.2 _ he; cases e1
          | succ k => exact va_alen hx hb hK.1 (am_one_P (hP.2.1 k _ he)) 0 2 rfl rfl rfl (am_dc_ok hv.1) (kk _ hv.2 H locs ls hP hS hl)
        · rename_i n' g he
          cases hw2
          cases r with
          | zero => obtain ⟨L, xs, e1, hX⟩ := hP.2.2 _ he; cases e1
          | succ k => exact va_alen hx hb hK.1 (am_one_P (hP.2.1 k _ he)) 0 1 rfl rfl rfl (am_dc_ok hv.1) (kk _ hv.2 H locs ls hP hS hl)
        · cases hw2
      · cases hst
    · cases hst
  case newarray t =>
    simp only [am_ex] at hst
    split at hst
    · rename_i n st'
      split at hst
      · cases hst
      · rename_i hn
        have hn1 : ¬ n < 0 := fun z => hn (Or.inl z)
        have hn2 : n.toNatClampNeg ≤ 1000000 := Nat.not_lt.mp fun z => hn (Or.inr z)
        split at hst
        · cases hst
          simp only [am_nw] at hR
          show W p l e R s m args below meth c H locs (h.1 - k0) (h.2.1 - n0) Q (F0 m pc ls _)
          refine va_newaK (atype := .int) hx hb (hts _ am_w_int) rfl (am_dc_ok hv.1) rfl hn1 rfl (Nat.le_trans (Nat.mul_le_mul_right _ hn2) (by decide)) (by omega) (by omega) hP.1 fun H1 cA e1 z1 o1 hAr hNm => ?_
          have hcA : cA = dA .int := Option.some.inj (hNm.symm.trans (hK.1.2 0 _ rfl).2)
          have k2 := kk _ hv.2 H1 locs ls (hP.nw (n := n.toNatClampNeg) hbs (by rw [z1, hP.1]) (fun q hq => o1 q (by rw [← hP.1]; exact hq)) (by show H1[sz + h.1]? = some (vp_cell (dA .int) _); rw [e1, hcA]; rfl)) (am_S.nw hS (by rw [z1, hP.1]) (fun q hq => o1 q (by rw [← hP.1]; exact hq))) hl
          simp only [am_nw] at k2
          rw [show h.1 + 1 - k0 = h.1 - k0 + 1 by omega, show h.2.1 + n.toNatClampNeg - n0 = h.2.1 - n0 + n.toNatClampNeg by omega] at k2
          exact k2
        · cases hst
          simp only [am_nw] at hR
          show W p l e R s m args below meth c H locs (h.1 - k0) (h.2.1 - n0) Q (F0 m pc ls _)
          refine va_newaK (atype := .boolean) hx hb (hts _ am_w_boolean) rfl (am_dc_ok hv.1) rfl hn1 rfl (Nat.le_trans (Nat.mul_le_mul_right _ hn2) (by decide)) (by omega) (by omega) hP.1 fun H1 cA e1 z1 o1 hAr hNm => ?_
          have hcA : cA = dA .boolean := Option.some.inj (hNm.symm.trans (hK.1.2 2 _ rfl).2)
          have k2 := kk _ hv.2 H1 locs ls (hP.nw (n := n.toNatClampNeg) hbs (by rw [z1, hP.1]) (fun q hq => o1 q (by rw [← hP.1]; exact hq)) (by show H1[sz + h.1]? = some (vp_cell (dA .boolean) _); rw [e1, hcA]; rfl)) (am_S.nw hS (by rw [z1, hP.1]) (fun q hq => o1 q (by rw [← hP.1]; exact hq))) hl
          simp only [am_nw] at k2
          rw [show h.1 + 1 - k0 = h.1 - k0 + 1 by omega, show h.2.1 + n.toNatClampNeg - n0 = h.2.1 - n0 + n.toNatClampNeg by omega] at k2
          exact k2
        · cases hst
          simp only [am_nw] at hR
          show W p l e R s m args below meth c H locs (h.1 - k0) (h.2.1 - n0) Q (F0 m pc ls _)
          refine va_newaK (atype := .long) hx hb (hts _ am_w_long) rfl (am_dc_ok hv.1) rfl hn1 rfl (Nat.le_trans (Nat.mul_le_mul_right _ hn2) (by decide)) (by omega) (by omega) hP.1 fun H1 cA e1 z1 o1 hAr hNm => ?_
          have hcA : cA = dA .long := Option.some.inj (hNm.symm.trans (hK.1.2 1 _ rfl).2)
          have k2 := kk _ hv.2 H1 locs ls (hP.nw (n := n.toNatClampNeg) hbs (by rw [z1, hP.1]) (fun q hq => o1 q (by rw [← hP.1]; exact hq)) (by show H1[sz + h.1]? = some (vp_cell (dA .long) _); rw [e1, hcA]; rfl)) (am_S.nw hS (by rw [z1, hP.1]) (fun q hq => o1 q (by rw [← hP.1]; exact hq))) hl
          simp only [am_nw] at k2
          rw [show h.1 + 1 - k0 = h.1 - k0 + 1 by omega, show h.2.1 + n.toNatClampNeg - n0 = h.2.1 - n0 + n.toNatClampNeg by omega] at k2
          exact k2
        · cases hst
    · cases hst
  case new i =>
    cases hst
    obtain ⟨⟨hd, hnx⟩, hnl⟩ := hv
    obtain ⟨ha, hw1, hw2, hw3⟩ := am_nl_at hnl
    obtain ⟨hc, hin, hty, hnm⟩ := am_cls a ha
    simp only [am_nw] at hR
    have hKn := hK.1.1 a _ hc
    show W p l e R s m args below meth c H locs (h.1 - k0) (h.2.1 - n0) Q (F0 m pc ls _)
    refine W.newcK hx hb hown (hts _ hw1) (hts _ hw2) (hts _ hw3) rfl (am_dc_ok hd) (by omega) (by omega) hKn.2.1 hP.1 fun H1 kC hkC e1 z1 o1 => ?_
    have k2 := kk _ hnx H1 locs ls (hP.nw (n := am_N a) (e := .inr (a, am_df a)) hbs (by rw [z1, hP.1]) (fun q hq => o1 q (by rw [← hP.1]; exact hq)) (by
      refine ⟨_, hc, (u_born (am_ty a) hts hin hKn hkC e1 hty).to (fun j hj => ?_)⟩
      rw [am_df_ok a ha j hj]
      simp only [vp_V, List.getD_eq_getElem?_getD, List.getElem?_map]
      have h0 : ∀ v ∈ am_df a, am_rl b0 sz v = v := fun v hv => am_rl_nr (am_df_nr a v hv)
      cases hg : (am_df a)[j]? with
      | none => rfl
      | some v => exact (h0 v (List.mem_of_getElem? hg)).symm)) (am_S.nw hS (by rw [z1, hP.1]) (fun q hq => o1 q (by rw [← hP.1]; exact hq))) hl
    simp only [am_nw] at k2
    rw [show h.1 + 1 - k0 = h.1 - k0 + 1 by omega, show h.2.1 + am_N a - n0 = h.2.1 - n0 + am_N a by omega] at k2
    exact k2
end AMH
end
section
/-! Calls; a run; every method's contract out of the abstract machine. -/
def am_Pc (D : va_G) (dA : FieldType → ClassId) (b0 sz : Nat) (As : List Value) (h : am_H) : Array Value → State → Prop := va_Pc (As.map (am_rl b0 sz)) (fun U => am_P D dA b0 sz h U U.heap ∧ am_K D dA U)
def am_Qc (D : va_G) (dA : FieldType → ClassId) (b0 sz : Nat) (r : Option Value) (h : am_H) : Array Value → State → Outcome → State → Prop := fun _ st oc t => oc = .returned (r.map (am_rl b0 sz)) ∧ am_P D dA b0 sz h t t.heap ∧ va_F (fun q => sz ≤ q) st t
def am_rm (d k n : Nat) : Room := { frames := d, cells := k, slots := n, locals := 64 * d }
def am_gd (j : Nat) (q : am_Q) : Prop := match q with
  | (o, y, cc, n, rt, ini, cd) => am_my[j]? = some y ∧ am_cn o = y.cls ∧ n ≤ 40 ∧ Cond.code y cc n rt ∈ am_tb ∧ plainName y.cls = true ∧ (y.cls ≠ "java/lang/invoke/MethodHandle" ∧ y.cls ≠ "java/lang/invoke/VarHandle") ∧ (ini = true → y.name = "<init>") ∧ (y.name = "<init>" → rt = none) ∧ am_vl o ini rt cc cd = true ∧ am_pc cd = 0
def am_M (l : Launch) (D : va_G) (dA : FieldType → ClassId) (b0 sz : Nat) (ms : List am_Q) (d : Nat) (f : am_F) : Prop :=
  ∀ (j : Nat) (As : List Value) (h : am_H) (r : Option Value) (h' : am_H), f j As h = some (r, h') → h.1 ≤ h'.1 ∧ h.2.1 ≤ h'.2.1 ∧ ∃ q : am_Q, ms[j]? = some q ∧
    Met l q.2.1 (.code q.2.1 q.2.2.1 q.2.2.2.1 q.2.2.2.2.1 :: am_tb) (am_rm d (h'.1 - h.1) (h'.2.1 - h.2.1)) (am_Pc D dA b0 sz As h) (am_Qc D dA b0 sz r h') (h'.1 - h.1) (h'.2.1 - h.2.1) (fun q => sz ≤ q)
theorem am_blind {D : va_G} {dA : FieldType → ClassId} {b0 sz : Nat} {As : List Value} {h : am_H} : FrameBlind (am_Pc D dA b0 sz As h) := fun a U g mk q => ⟨q.1, q.2.1.moved (u := U) (U := U.calling g mk a) (Vm.Alike.refl U.vm), am_K.same (s := U) (U := U.calling g mk a) rfl q.2.2⟩
theorem am_good (y : MethodName) (cc : ByteArray) (n : Nat) (rt : Option FieldType) (hc : Cond.code y cc n rt ∈ am_tb) : GoodIn am_tb (.code y cc n rt :: am_tb) := by
  intro w hw
  have h1 : w ∈ am_tb := by
    rcases List.mem_cons.mp hw with rfl | h
    · exact hc
    · exact h
  exact ⟨h1, am_tb_good w h1⟩
section AMC
variable {p : Program} {l : Launch} {e : Env} {R : Room} {s : State} {m : MethodId} {args : Array Value} {below : List Frame} {meth : Method} {c : Code} {H : Heap} {locs : List Loc} {cells slots : Nat} {Q : State → Prop} {D : va_G} {dA : FieldType → ClassId} {b0 sz nL k0 n0 o d : Nat} {cc : ByteArray} {rt : Option FieldType} {ini : Bool} {ms : List am_Q} {f : am_F} {cd : List am_I} {pc a b : Nat} {ins : Instr} {v : Value} {sw : List (Int32 × Nat)} {is : List am_I} {lv : am_L} {st : List Value} {h h' : am_H} {σ : am_S} {ls : Array Slot} {rest st0 : List Value} {r : Option Value}
theorem am_cont {mc mS : Nat} {av : Array Value} (hr : va_Run p l e R s m args below meth c H locs cells slots mc mS (F0 m pc ls st0) rest (am_Qc D dA b0 sz r h' av) (fun q => sz ≤ q)) (hS : va_S (fun q => sz ≤ q) s.heap H locs)
    (kk : ∀ (H1 : Heap) (locs1 : List Loc), am_P D dA b0 sz h' s H1 → va_S (fun q => sz ≤ q) s.heap H1 locs1 → W p l e R s m args below meth c H1 locs1 (cells + mc) (slots + mS) Q (F0 m (pc + 3) ls ((r.map (am_rl b0 sz)).toList ++ rest))) : W p l e R s m args below meth c H locs cells slots Q (F0 m pc ls st0) := by
  intro T hT X
  obtain ⟨w, st₀, t, T', L, h0, X', hL, e1, e2, ⟨hv, hp, hz, hk⟩, stp⟩ := hr T hT X
  cases hv
  rw [h0] at hz hk
  have hal : t.vm.Alike s.vm := by rw [← e2]; exact X'.warmed.alike.symm
  obtain ⟨t2, a1, b1⟩ := kk T'.heap (locs ++ L) (by rw [e1]; exact hp.moved hal)
    ⟨Nat.le_trans hS.1 (by rw [e1]; exact hz), fun q h1 h2 => by rw [e1, hk q (Nat.lt_of_lt_of_le h1 hS.1) h2]; exact hS.2.1 q h1 h2, fun q hq => by
      rcases List.mem_append.mp hq with h | h
      · exact hS.2.2 q h
      · exact hL q h⟩ T' rfl X'
  exact ⟨t2, stp t2 a1, b1⟩
theorem am_k_spec {o' : Option am_R} (hst : am_k is lv st o' = some (.inl σ)) : ∃ r h', o' = some (r, h') ∧ am_cat st ≤ 8 ∧ σ = (is, lv, r.toList ++ st, h') := by
  unfold am_k at hst
  split at hst
  · split at hst
    · rename_i h8; cases hst; exact ⟨_, _, rfl, h8, rfl⟩
    · cases hst
  · split at hst
    · rename_i h8; cases hst; exact ⟨_, _, rfl, h8, rfl⟩
    · cases hst
  · cases hst
def am_pl5 : Instr → Bool
  | .invokevirtual _ | .invokespecial _ | .invokestatic _ => true
  | _ => false
theorem am_map_ref {b0 sz k : Nat} {bs st : List Value} : ((bs.reverse ++ Value.ref (k + 1) :: st).map (am_rl b0 sz)) = (bs.map (am_rl b0 sz)).reverse ++ .ref (sz + k) :: st.map (am_rl b0 sz) := by
  simp [am_rl_ref]
theorem am_map_app {b0 sz : Nat} {bs st : List Value} : ((bs.reverse ++ st).map (am_rl b0 sz)) = (bs.map (am_rl b0 sz)).reverse ++ st.map (am_rl b0 sz) := by
  simp
theorem am_toList {b0 sz : Nat} {r : Option Value} {st : List Value} : (r.map (am_rl b0 sz)).toList ++ st.map (am_rl b0 sz) = (r.toList ++ st).map (am_rl b0 sz) := by
  cases r <;> simp
/-- a reference to a place, or to the script -/
theorem am_rl_any (b0 sz r : Nat) : ∃ q : Nat, am_rl b0 sz (.ref r) = .ref q := by cases r <;> exact ⟨_, rfl⟩
set_option maxHeartbeats 8000000 in
theorem am_one5 (hms : ∀ (j : Nat) (q : am_Q), ms[j]? = some q → am_gd j q) (hM : am_M l D dA b0 sz ms d f) (hRf : d + 1 ≤ R.frames) (hRl : 64 * (d + 1) ≤ R.locals) (hbs : b0 < sz) (C : am_C D dA o cc nL rt ini p s m args meth c) (hq : am_pl5 ins = true) (hst : am_ex f cd ins a b v sw is lv st h = some (.inl σ)) (hv : am_vi o ini rt cc (pc, ins, a, b, v, sw) (am_pc is) = true) (hk0 : k0 ≤ h.1) (hn0 : n0 ≤ h.2.1) (hR : σ.2.2.2.1 - k0 ≤ R.cells ∧ σ.2.2.2.2.1 - n0 ≤ R.slots) (kk : am_G p l e R s m args below meth c Q D dA b0 sz nL k0 n0 σ) : am_G p l e R s m args below meth c Q D dA b0 sz nL k0 n0 ((pc, ins, a, b, v, sw) :: is, lv, st, h) := by
  intro pc' hpc H locs ls hP hS hl
  obtain rfl : pc = pc' := hpc
  obtain ⟨hx, hb, hml, hown, hts, hr, hlk, hini, hK⟩ := C
  dsimp only at hP hl
  have hmlL : c.maxLocals = ls.size := hml.trans hl.1.symm
  -- behind a call
  have fin : ∀ (r : Option Value) (h' : am_H) (st' : List Value), σ = (is, lv, r.toList ++ st', h') → am_pc is = pc + 3 → h.1 ≤ h'.1 → h.2.1 ≤ h'.2.1 → ∀ (H1 : Heap) (locs1 : List Loc), am_P D dA b0 sz h' s H1 → va_S (fun q => sz ≤ q) s.heap H1 locs1 → W p l e R s m args below meth c H1 locs1 (h.1 - k0 + (h'.1 - h.1)) (h.2.1 - n0 + (h'.2.1 - h.2.1)) Q (F0 m (pc + 3) ls ((r.map (am_rl b0 sz)).toList ++ st'.map (am_rl b0 sz))) := by
    intro r h' st' hσ hnx hh1 hh2 H1 locs1 g1 g2
    subst hσ
    have k2 := kk _ hnx H1 locs1 ls g1 g2 hl
    dsimp only at k2
    rw [am_toList, show h.1 - k0 + (h'.1 - h.1) = h'.1 - k0 by omega, show h.2.1 - n0 + (h'.2.1 - h.2.1) = h'.2.1 - n0 by omega]
    exact k2
  have room : ∀ (r : Option Value) (h' : am_H) (st' : List Value), σ = (is, lv, r.toList ++ st', h') → h.1 ≤ h'.1 → h.2.1 ≤ h'.2.1 → h.1 - k0 + (h'.1 - h.1) ≤ R.cells ∧ h.2.1 - n0 + (h'.2.1 - h.2.1) ≤ R.slots := by
    intro r h' st' hσ hh1 hh2
    subst hσ
    dsimp only at hR
    omega
  have preS : ∀ As : List Value, PreS s H (am_Pc D dA b0 sz As h) (As.map (am_rl b0 sz)) := fun As => ⟨am_blind, fun U hU hW => ⟨rfl, by rw [hU]; exact hP.moved hW.alike, hK.moved hW⟩⟩
  have hrm : ∀ (n k z : Nat), n ≤ 40 → (am_rm d k z).frames + 1 ≤ R.frames ∧ 8 + (n + 11) + (am_rm d k z).locals ≤ R.locals := fun n k z hn => ⟨hRf, by show 8 + (n + 11) + 64 * d ≤ R.locals; omega⟩
  cases ins <;> first
    | (exact absurd hq Bool.false_ne_true)
    | (simp only [am_vi, Bool.and_eq_true, decide_eq_true_eq] at hv)
  case invokevirtual i =>
    obtain ⟨⟨⟨⟨hd, hnx⟩, hml1⟩, hnp⟩, hcl⟩ := hv
    obtain ⟨p1, p2, p3, p4, hmk⟩ := am_ml_at hml1
    obtain ⟨y, hy⟩ := am_mk_y hmk
    obtain ⟨w1, w2, w3, w4⟩ := am_mk_0 hy hmk
    have hnp := am_np_ok hy hnp
    rw [hy] at hcl
    simp only [am_ex] at hst
    split at hst
    · rename_i cI
      simp only [Bool.and_eq_true, decide_eq_true_eq] at hcl
      split at hst
      · rename_i As r st' hpop
        split at hst
        · rename_i hcr
          obtain ⟨ra, h', hf, h8, hσ⟩ := am_k_spec hst
          obtain ⟨hh1, hh2, q, hq1, hMet⟩ := hM a _ h ra h' hf
          have hg := hms a q hq1
          obtain ⟨o', y', cc', n', rt', ini', cd'⟩ := q
          obtain ⟨g1, g2, g3, g4, g5, g6, g7, g8, g9, g10⟩ := hg
          obtain rfl : y = y' := Option.some.inj (hy.symm.trans g1)
          obtain ⟨bs, hb1, hb2, hb3⟩ := am_pop_spec _ _ _ _ _ hpop
          rw [List.append_nil] at hb2
          subst hb2
          unfold am_cl at hcr
          split at hcr
          · rename_i c' fs he
            cases hcr
            obtain ⟨k, rfl, hat⟩ := hP.obj he
            have hclk := am_cls cI hcl.1
            have hrec := va_recv hK.1 (am_one_P hat) hclk.1 (q0 := 0) rfl
            dsimp only at hrec
            rw [hcl.2] at hrec
            have cw := cwV (R := R) (s := s) (args := args) (Ts := am_tb) (own := am_cn o) (index := i) (C := y.cls) (y := y) (bytes := cc') (maxL := n') (ret := rt') (ws' := am_tb) (rm := am_rm d (h'.1 - h.1) (h'.2.1 - h.2.1)) b hts (by
              intro w hw
              have hin : w ∈ am_tb := by
                unfold wsV at hw
                simp only [List.mem_append, List.mem_cons, List.not_mem_nil, or_false] at hw
                rcases hw with (rfl | rfl | rfl | rfl) | (rfl | hw)
                · exact w1
                · exact w2
                · exact w3
                · exact w4
                · exact g4
                · exact hw
              exact ⟨hin, am_tb_good w hin⟩) rfl rfl rfl ⟨rfl, g6.1, g6.2, hnp⟩ (hrm n' _ _ g3)
            subst hb3
            rw [am_map_ref]
            exact am_cont (va_runV (As := As.map (am_rl b0 sz)) (rest := st'.map (am_rl b0 sz)) ⟨hx, hb, hml, hown, hts⟩ hMet cw ⟨am_blind, hrec, fun U hU hW => ⟨rfl, by rw [hU]; exact hP.moved hW.alike, hK.moved hW⟩⟩ rfl (by rw [List.length_map]; exact hb1) hl.1 rfl (lv_room (by rw [am_cat_sum]; exact h8)) (am_dc_ok hd) (room ra h' st' hσ hh1 hh2)) hS (fin ra h' st' hσ hnx hh1 hh2)
          · cases hcr
        · cases hst
      · cases hst
    · cases hst
  case invokespecial i =>
    obtain ⟨⟨hd, hnx⟩, hvv⟩ := hv
    simp only [am_ex] at hst
    split at hst
    · split at hst
      · rename_i r st'
        split at hst
        · rename_i h8
          cases hst
          obtain ⟨a', p1, p2, p3, p4, hmk⟩ := am_ml_at0 hvv
          obtain ⟨y, hy⟩ := am_mk_y hmk
          have w1 := am_mk_5 hy hmk
          obtain ⟨z, hz⟩ := am_rl_any b0 sz r
          have kx := kk _ hnx H locs ls hP hS hl
          refine W.objInit hx hb hown (hts _ w1) (hts _ am_w_obj.1) (hts _ am_w_obj.2) rfl (by rw [hml]; exact hl.1) (a := z) (rest := st'.map (am_rl b0 sz)) (by show List.map (am_rl b0 sz) (.ref r :: st') = _; rw [List.map_cons, hz]) (am_dc_ok hd) (by omega) (by show 2 * 0 + _ + 12 ≤ _; rw [am_cat_sum]; omega) kx
        · cases hst
      · cases hst
    · rename_i hnn
      split at hst
      · rename_i As r st' hpop
        obtain ⟨ra, h', hf, h8, hσ⟩ := am_k_spec hst
        obtain ⟨hh1, hh2, q, hq1, hMet⟩ := hM a _ h ra h' hf
        have hg := hms a q hq1
        obtain ⟨o', y', cc', n', rt', ini', cd'⟩ := q
        obtain ⟨g1, g2, g3, g4, g5, g6, g7, g8, g9, g10⟩ := hg
        obtain ⟨bs, hb1, hb2, hb3⟩ := am_pop_spec _ _ _ _ _ hpop
        rw [List.append_nil] at hb2
        subst hb2
        obtain ⟨z, hz⟩ := am_rl_any b0 sz r
        have hstk : st.map (am_rl b0 sz) = (As.map (am_rl b0 sz)).reverse ++ .ref z :: st'.map (am_rl b0 sz) := by rw [hb3]; simp [hz]
        have hpre := preS (.ref r :: As)
        rw [List.map_cons, hz] at hpre
        split at hvv
        · exact absurd rfl hnn
        · simp only [Bool.and_eq_true, decide_eq_true_eq] at hvv
          obtain ⟨p1, p2, p3, p4, hmk⟩ := am_ml_at hvv.1
          have hnp := am_np_ok g1 hvv.2
          obtain ⟨w1, w2, w3, w4⟩ := am_mk_1 g1 hmk
          obtain rfl := g8 w4
          have cw := cwI (R := R) (s := s) (args := args) (own := am_cn o) (index := i) (y := y') (bytes := cc') (maxL := n') (ws' := am_tb) (rm := am_rm d (h'.1 - h.1) (h'.2.1 - h.2.1)) b hts (am_good y' cc' n' none g4) rfl rfl rfl (hts _ w3) (hts _ w1) (hts _ w2) w4 ⟨g6.1, g6.2, hnp⟩ (hrm n' _ _ g3)
          show W p l e R s m args below meth c H locs (h.1 - k0) (h.2.1 - n0) Q (F0 m pc ls (st.map (am_rl b0 sz)))
          rw [hstk]
          exact am_cont (va_runI (As := As.map (am_rl b0 sz)) (rest := st'.map (am_rl b0 sz)) ⟨hx, hb, hml, hown, hts⟩ hMet cw hpre rfl (by rw [List.length_map]; exact hb1) hl.1 rfl (lv_room (by rw [am_cat_sum]; exact h8)) (am_dc_ok hd) (room ra h' st' hσ hh1 hh2)) hS (fin ra h' st' hσ hnx hh1 hh2)
        · rw [g1] at hvv
          simp only [Bool.and_eq_true, decide_eq_true_eq] at hvv
          obtain ⟨p1, p2, p3, p4, hmk⟩ := am_ml_at hvv.1.2
          have hnp := am_np_ok g1 hvv.2
          obtain ⟨w2, w3, w4⟩ := am_mk_3 g1 hmk
          obtain rfl := g8 w4
          have cw := va_cnB (R := R) (s := s) (args := args) (own := am_cn o) (index := i) (y := y') (host := RX4) (bytes := cc') (maxL := n') (ret := none) (ws' := am_tb) (rm := am_rm d (h'.1 - h.1) (h'.2.1 - h.2.1)) b hts (am_good y' cc' n' none g4) rfl rfl rfl (hK.2 _ hvv.1.1) (hts _ w3) ⟨g6.1, g6.2, hnp⟩ (hrm n' _ _ g3)
          show W p l e R s m args below meth c H locs (h.1 - k0) (h.2.1 - n0) Q (F0 m pc ls (st.map (am_rl b0 sz)))
          rw [hstk]
          exact am_cont (va_runIN (As := As.map (am_rl b0 sz)) (rest := st'.map (am_rl b0 sz)) ⟨hx, hb, hml, hown, hts⟩ hMet ⟨cw, w4, hts _ w2⟩ hpre rfl (by rw [List.length_map]; exact hb1) hl.1 rfl (lv_room (by rw [am_cat_sum]; exact h8)) (am_dc_ok hd) (room ra h' st' hσ hh1 hh2)) hS (fin ra h' st' hσ hnx hh1 hh2)
        · cases hvv
      · cases hst
  case invokestatic i =>
    obtain ⟨⟨hd, hnx⟩, hvv⟩ := hv
    simp only [am_ex] at hst
    split at hst
    · split at hst
      · rename_i y x st'
        split at hst
        · rename_i h8
          cases hst
          obtain ⟨a', p1, p2, p3, p4, hmk⟩ := am_ml_at0 hvv
          obtain ⟨y1, hy⟩ := am_mk_y hmk
          have w1 := am_mk_6 hy hmk
          dsimp only at hR
          exact va_mmax hx hb hmlL hown (hts _ w1) (hts _ am_w_max.1) (hts _ am_w_max.2.1) (hts _ am_w_max.2.2) (by omega) (by rw [am_cat_sum]; omega) hR.1 hR.2 (am_dc_ok hd) (kk _ hnx H locs ls hP hS hl)
        · cases hst
      · cases hst
    · split at hst
      · rename_i n dp r' sp r st'
        split at hst
        · rename_i hrr
          obtain ⟨rfl, h8⟩ := hrr
          split at hst
          · rename_i h' hcy
            cases hst
            obtain ⟨a', p1, p2, p3, p4, hmk⟩ := am_ml_at0 hvv
            obtain ⟨y1, hy⟩ := am_mk_y hmk
            have w1 := am_mk_7 hy hmk
            unfold am_cy at hcy
            split at hcy
            · rename_i kz g he
              split at hcy
              · cases hcy
              · rename_i hno
                cases hcy
                cases r with
                | zero => exact absurd (Or.inl rfl) hno
                | succ k =>
                  have hat : H[sz + k]? = some (vp_cell (dA .long) (kz, .inr (.inl g))) := hP.2.1 k _ he
                  have h1 : ¬ sp < 0 := fun z => hno (Or.inr (Or.inl z))
                  have h2 : ¬ dp < 0 := fun z => hno (Or.inr (Or.inr (Or.inl z)))
                  have h3 : ¬ n < 0 := fun z => hno (Or.inr (Or.inr (Or.inr (Or.inl z))))
                  have h4 : sp.toNatClampNeg + n.toNatClampNeg ≤ kz := Nat.not_lt.mp fun z => hno (Or.inr (Or.inr (Or.inr (Or.inr (Or.inl z)))))
                  have h5 : dp.toNatClampNeg + n.toNatClampNeg ≤ kz := Nat.not_lt.mp fun z => hno (Or.inr (Or.inr (Or.inr (Or.inr (Or.inr z)))))
                  have nn : ∀ z : Int32, ¬ z < 0 → z.toInt = (z.toNatClampNeg : Int) := by
                    intro z hz
                    have hz0 : (0 : Int) ≤ z.toInt := by
                      have := Int32.not_lt.mp hz
                      simpa using Int32.le_iff_toInt_le.mp this
                    show z.toInt = ((z.toInt.toNat : Nat) : Int)
                    omega
                  intro T hT X
                  obtain ⟨-, kc, hkc, cm, hkk⟩ := hK.long kz (fun j => .long (g j))
                  obtain ⟨vm', X', step⟩ := X.arraycopy hx hown (hts _ w1) (hts _ am_w_cpy.1) (hts _ am_w_cpy.2.1) (hts _ am_w_cpy.2.2) (src := sz + k) (dst := sz + k) (cs := vp_cell (dA .long) (kz, .inr (.inl g))) (cd := vp_cell (dA .long) (kz, .inr (.inl g))) (srcPos := sp) (destPos := dp) (n := n) (by rw [hT]; exact hat) (by rw [hT]; exact hat)
                    (fun _ h => by cases h) (fun _ h => by cases h) (fun h => by cases h) (fun h => by cases h) hkc hkc hkk hkk (by simp [refKind]) h1 h2 h3
                    (by rw [nn sp h1, nn n h3]; show ¬ _ > ((arrV (dA .long) kz (fun j => .long (g j))).slots.size : Int); rw [arrV_size]; omega)
                    (by rw [nn dp h2, nn n h3]; show ¬ _ > ((arrV (dA .long) kz (fun j => .long (g j))).slots.size : Int); rw [arrV_size]; omega)
                    (fun vm₁ _ i hi => by
                      have e : (vp_cell (dA .long) (kz, .inr (.inl g))).slots.getD (sp.toNatClampNeg + i) .null = .long (g (sp.toNatClampNeg + i)) := by
                        show (arrV (dA .long) kz (fun j => .long (g j))).slots.getD _ _ = _
                        rw [Array.getD_eq_getD_getElem?, arrV_read _ _ (by omega)]
                        rfl
                      refine ⟨?_, ?_⟩
                      · rw [e]; rfl
                      · rw [e]; exact trivial)
                    (g := F0 m pc ls (.int n :: .int dp :: .ref (sz + k) :: .int sp :: .ref (sz + k) :: st'.map (am_rl b0 sz))) rfl (by rw [hml]; exact hl.1) (rest := st'.map (am_rl b0 sz)) rfl (by rw [hb]; exact am_dc_ok hd) (by omega) (by
                      have hz : nativeFrameWords "java/lang/System" "arraycopy" 5 = 7 := by decide +kernel
                      show 2 * 0 + _ + (nativeFrameWords "java/lang/System" "arraycopy" 5 + 11) ≤ _
                      rw [hz, am_cat_sum]; omega)
                  have e1 : copied (vp_cell (dA .long) (kz, .inr (.inl g))) (vp_cell (dA .long) (kz, .inr (.inl g))) sp dp n = vp_cell (dA .long) (kz, .inr (.inl (va_cpy g g sp.toNatClampNeg dp.toNatClampNeg n.toNatClampNeg))) := va_copied (fun z => .long z) (dA .long) (dA .long) g g h4
                  rw [e1] at X' step
                  have hlt : sz + k < H.size := (Array.getElem?_eq_some_iff.mp hat).1
                  have hheap : ((T.setVm vm').setCell (sz + k) (vp_cell (dA .long) (kz, .inr (.inl (va_cpy g g sp.toNatClampNeg dp.toNatClampNeg n.toNatClampNeg))))).heap = H.setIfInBounds (sz + k) (vp_cell (dA .long) (kz, .inr (.inl (va_cpy g g sp.toNatClampNeg dp.toNatClampNeg n.toNatClampNeg)))) := by rw [← hT]; rfl
                  have oq : ∀ q : Nat, q ≠ sz + k → (H.setIfInBounds (sz + k) (vp_cell (dA .long) (kz, .inr (.inl (va_cpy g g sp.toNatClampNeg dp.toNatClampNeg n.toNatClampNeg)))))[q]? = H[q]? := fun q hq => by simp [Array.getElem?_setIfInBounds, Ne.symm hq]
                  obtain ⟨t, a1, b1⟩ := kk _ hnx _ _ ls (hP.up hbs he (by simp) oq (show (H.setIfInBounds (sz + k) _)[sz + k]? = some (vp_cell (dA .long) _) by simp [Array.getElem?_setIfInBounds, hlt])) ⟨by simp; exact hS.1, fun q g1 g2 => by
                      rw [oq q (fun e => g2 (by rw [e]; exact Nat.le_add_right _ _))]
                      exact hS.2.1 q g1 g2, fun q hq => by
                      rcases List.mem_append.mp hq with h | h
                      · exact hS.2.2 q h
                      · obtain ⟨z, -, hz⟩ := List.mem_map.mp h
                        rw [← hz]
                        exact Nat.le_add_right _ _⟩ hl _ hheap X'
                  exact ⟨t, step t a1, b1⟩
            · cases hcy
          · cases hst
        · cases hst
      · cases hst
    · rename_i hnn hnl
      split at hst
      · rename_i As st' hpop
        obtain ⟨ra, h', hf, h8, hσ⟩ := am_k_spec hst
        obtain ⟨hh1, hh2, q, hq1, hMet⟩ := hM a _ h ra h' hf
        have hg := hms a q hq1
        obtain ⟨o', y', cc', n', rt', ini', cd'⟩ := q
        obtain ⟨g1, g2, g3, g4, g5, g6, g7, g8, g9, g10⟩ := hg
        obtain ⟨bs, hb1, hb2, hb3⟩ := am_pop_spec _ _ _ _ _ hpop
        rw [List.append_nil] at hb2
        subst hb2
        have hstk : st.map (am_rl b0 sz) = (As.map (am_rl b0 sz)).reverse ++ st'.map (am_rl b0 sz) := by rw [hb3]; simp
        split at hvv
        · exact absurd rfl hnn
        · exact absurd rfl (hnl _)
        · simp only [Bool.and_eq_true, decide_eq_true_eq] at hvv
          obtain ⟨p1, p2, p3, p4, hmk⟩ := am_ml_at hvv.1
          have hnp := am_np_ok g1 hvv.2
          obtain ⟨w1, w2, w3⟩ := am_mk_2 g1 hmk
          have cw := va_cwS (R := R) (s := s) (args := args) (Ts := am_tb) (own := am_cn o) (index := i) (y := y') (bytes := cc') (maxL := n') (ret := rt') (ws' := am_tb) (rm := am_rm d (h'.1 - h.1) (h'.2.1 - h.2.1)) b hts (by
            intro w hw
            have hin : w ∈ am_tb := by
              unfold va_wsS at hw
              simp only [List.mem_append, List.mem_cons, List.not_mem_nil, or_false] at hw
              rcases hw with (rfl | rfl | rfl) | (rfl | hw)
              · exact w1
              · exact w2
              · exact w3
              · exact g4
              · exact hw
            exact ⟨hin, am_tb_good w hin⟩) rfl rfl rfl ⟨g6.1, g6.2, hnp⟩ (hrm n' _ _ g3)
          show W p l e R s m args below meth c H locs (h.1 - k0) (h.2.1 - n0) Q (F0 m pc ls (st.map (am_rl b0 sz)))
          rw [hstk]
          exact am_cont (va_runS (As := As.map (am_rl b0 sz)) (rest := st'.map (am_rl b0 sz)) ⟨hx, hb, hml, hown, hts⟩ hMet cw (preS As) rfl (by rw [List.length_map]; exact hb1) hl.1 rfl (lv_room (by rw [am_cat_sum]; exact h8)) (am_dc_ok hd) (room ra h' st' hσ hh1 hh2)) hS (fin ra h' st' hσ hnx hh1 hh2)
        · rw [g1] at hvv
          simp only [Bool.and_eq_true, decide_eq_true_eq] at hvv
          obtain ⟨p1, p2, p3, p4, hmk⟩ := am_ml_at hvv.1.2
          have hnp := am_np_ok g1 hvv.2
          obtain ⟨w2, w3⟩ := am_mk_4 g1 hmk
          have cw := va_cnB (R := R) (s := s) (args := args) (own := am_cn o) (index := i) (y := y') (host := RX4) (bytes := cc') (maxL := n') (ret := rt') (ws' := am_tb) (rm := am_rm d (h'.1 - h.1) (h'.2.1 - h.2.1)) b hts (am_good y' cc' n' rt' g4) rfl rfl rfl (hK.2 _ hvv.1.1) (hts _ w3) ⟨g6.1, g6.2, hnp⟩ (hrm n' _ _ g3)
          show W p l e R s m args below meth c H locs (h.1 - k0) (h.2.1 - n0) Q (F0 m pc ls (st.map (am_rl b0 sz)))
          rw [hstk]
          exact am_cont (va_runSN (As := As.map (am_rl b0 sz)) (rest := st'.map (am_rl b0 sz)) ⟨hx, hb, hml, hown, hts⟩ hMet ⟨cw, hts _ w2, trivial⟩ (preS As) rfl (by rw [List.length_map]; exact hb1) hl.1 rfl (lv_room (by rw [am_cat_sum]; exact h8)) (am_dc_ok hd) (room ra h' st' hσ hh1 hh2)) hS (fin ra h' st' hσ hnx hh1 hh2)
        · cases hvv
      · cases hst
end AMC
end
section
/-! A whole run; each method's contract; the law's walk out of one equation about the abstract machine. -/
section AMR
variable {f : am_F} {cd : List am_I} {pc a b : Nat} {ins : Instr} {v : Value} {sw : List (Int32 × Nat)} {is : List am_I} {lv : am_L} {st : List Value} {h h' : am_H} {σ : am_S}
def am_le (h h' : am_H) : Prop := h.1 ≤ h'.1 ∧ h.2.1 ≤ h'.2.1
theorem am_le.rf : am_le h h := ⟨Nat.le_refl _, Nat.le_refl _⟩
theorem am_pf_le {r c k : Nat} {w : Value} (e : am_pf h r c k w = some h') : am_le h h' := by
  unfold am_pf at e
  split at e
  · split at e
    · cases e; exact am_le.rf
    · cases e
  · cases e
theorem am_pi_le {r : Nat} {i x : Int32} (e : am_pi h r i x = some h') : am_le h h' := by
  unfold am_pi at e
  split at e
  · split at e
    · cases e
    · cases e; exact am_le.rf
  · cases e
theorem am_pz_le {r : Nat} {i x : Int32} (e : am_pz h r i x = some h') : am_le h h' := by
  unfold am_pz at e
  split at e
  · split at e
    · cases e
    · cases e; exact am_le.rf
  · cases e
theorem am_pl_le {r : Nat} {i : Int32} {x : Int64} (e : am_pl h r i x = some h') : am_le h h' := by
  unfold am_pl at e
  split at e
  · split at e
    · cases e
    · cases e; exact am_le.rf
  · cases e
theorem am_cy_le {r : Nat} {sp dp n : Int32} (e : am_cy h r sp dp n = some h') : am_le h h' := by
  unfold am_cy at e
  split at e
  · split at e
    · cases e
    · cases e; exact am_le.rf
  · cases e
theorem am_c2_shape {g : Value → Value → Option Value} (e : am_c2 is lv h g st = some (.inl σ)) : σ.1 = is ∧ σ.2.2.2 = h := by
  unfold am_c2 at e
  split at e
  · split at e
    · cases e; exact ⟨rfl, rfl⟩
    · cases e
  · cases e
def am_okF (f : am_F) : Prop := ∀ (j : Nat) (As : List Value) (h : am_H) (r : Option Value) (h' : am_H), f j As h = some (r, h') → am_le h h'
set_option maxHeartbeats 4000000 in
theorem am_shape (hf : am_okF f) (hst : am_ex f cd ins a b v sw is lv st h = some (.inl σ)) : (σ.1 = is ∨ ∃ t, σ.1 = am_jmp cd t) ∧ am_le h σ.2.2.2 := by
  cases ins
  case putfield i =>
    simp only [am_ex] at hst
    split at hst
    · split at hst
      · split at hst
        · rename_i e; cases hst; exact ⟨Or.inl rfl, am_pf_le e⟩
        · cases hst
      · cases hst
    · cases hst
  case iastore =>
    simp only [am_ex] at hst
    split at hst
    · split at hst
      · rename_i e; cases hst; exact ⟨Or.inl rfl, am_pi_le e⟩
      · cases hst
    · cases hst
  case bastore =>
    simp only [am_ex] at hst
    split at hst
    · split at hst
      · rename_i e; cases hst; exact ⟨Or.inl rfl, am_pz_le e⟩
      · cases hst
    · cases hst
  case lastore =>
    simp only [am_ex] at hst
    split at hst
    · split at hst
      · rename_i e; cases hst; exact ⟨Or.inl rfl, am_pl_le e⟩
      · cases hst
    · cases hst
  case newarray t =>
    simp only [am_ex] at hst
    split at hst
    · split at hst
      · cases hst
      · split at hst
        · cases hst; exact ⟨Or.inl rfl, Nat.le_succ _, Nat.le_add_right _ _⟩
        · cases hst; exact ⟨Or.inl rfl, Nat.le_succ _, Nat.le_add_right _ _⟩
        · cases hst; exact ⟨Or.inl rfl, Nat.le_succ _, Nat.le_add_right _ _⟩
        · cases hst
    · cases hst
  case new i =>
    cases hst
    exact ⟨Or.inl rfl, Nat.le_succ _, Nat.le_add_right _ _⟩
  case invokevirtual i =>
    simp only [am_ex] at hst
    split at hst
    · split at hst
      · split at hst
        · obtain ⟨r, h', e1, -, e2⟩ := am_k_spec hst
          subst e2
          exact ⟨Or.inl rfl, hf _ _ _ _ _ e1⟩
        · cases hst
      · cases hst
    · cases hst
  case invokespecial i =>
    simp only [am_ex] at hst
    split at hst
    · split at hst
      · split at hst
        · cases hst; exact ⟨Or.inl rfl, am_le.rf⟩
        · cases hst
      · cases hst
    · split at hst
      · obtain ⟨r, h', e1, -, e2⟩ := am_k_spec hst
        subst e2
        exact ⟨Or.inl rfl, hf _ _ _ _ _ e1⟩
      · cases hst
  case invokestatic i =>
    simp only [am_ex] at hst
    split at hst
    · split at hst
      · split at hst
        · cases hst; exact ⟨Or.inl rfl, am_le.rf⟩
        · cases hst
      · cases hst
    · split at hst
      · split at hst
        · split at hst
          · rename_i e; cases hst; exact ⟨Or.inl rfl, am_cy_le e⟩
          · cases hst
        · cases hst
      · cases hst
    · split at hst
      · obtain ⟨r, h', e1, -, e2⟩ := am_k_spec hst
        subst e2
        exact ⟨Or.inl rfl, hf _ _ _ _ _ e1⟩
      · cases hst
  case ifCond q off =>
    simp only [am_ex] at hst
    split at hst
    · rename_i x st'
      cases hst
      refine ⟨?_, am_le.rf⟩
      by_cases hc : am_cc q x 0 = true
      · exact Or.inr ⟨a, if_pos hc⟩
      · exact Or.inl (if_neg hc)
    · cases hst
  case if_icmp q off =>
    simp only [am_ex] at hst
    split at hst
    · rename_i y x st'
      cases hst
      refine ⟨?_, am_le.rf⟩
      by_cases hc : am_cc q x y = true
      · exact Or.inr ⟨a, if_pos hc⟩
      · exact Or.inl (if_neg hc)
    · cases hst
  all_goals first
    | (cases hst; done)
    | (cases hst; exact ⟨Or.inl rfl, am_le.rf⟩)
    | (cases hst; exact ⟨Or.inr ⟨_, rfl⟩, am_le.rf⟩)
    | (have e := am_c2_shape hst; exact ⟨Or.inl e.1, by rw [e.2]; exact am_le.rf⟩)
    | (simp only [am_ex] at hst
       split at hst <;> first
         | (cases hst; done)
         | (cases hst; exact ⟨Or.inl rfl, am_le.rf⟩)
         | (cases hst; exact ⟨Or.inr ⟨_, rfl⟩, am_le.rf⟩)
         | (obtain ⟨lv', h1, h2⟩ := Option.map_eq_some_iff.mp hst; cases h2; exact ⟨Or.inl rfl, am_le.rf⟩)
         | (split at hst <;> first
             | (cases hst; done)
             | (cases hst; exact ⟨Or.inl rfl, am_le.rf⟩)))
theorem am_ends {r : am_R} (hst : am_ex f cd ins a b v sw is lv st h = some (.inr r)) :
    (∃ x, ins = .ireturn ∧ st = [.int x] ∧ (a = 0 ∨ x = 0 ∨ x = 1) ∧ r = (some (.int x), h)) ∨ (∃ x, ins = .lreturn ∧ st = [.long x] ∧ r = (some (.long x), h)) ∨ (ins = .return_ ∧ st = [] ∧ r = (none, h)) := by
  cases ins
  case ireturn =>
    simp only [am_ex] at hst
    split at hst
    · split at hst
      · rename_i hx; cases hst; exact Or.inl ⟨_, rfl, rfl, hx, rfl⟩
      · cases hst
    · cases hst
  case lreturn =>
    simp only [am_ex] at hst
    split at hst
    · cases hst; exact Or.inr (Or.inl ⟨_, rfl, rfl, rfl⟩)
    · cases hst
  case return_ =>
    simp only [am_ex] at hst
    split at hst
    · cases hst; exact Or.inr (Or.inr ⟨rfl, rfl, rfl⟩)
    · cases hst
  all_goals first
    | (cases hst; done)
    | (exfalso
       simp only [am_ex, am_c2, am_k] at hst
       repeat' split at hst
       all_goals first
         | (cases hst; done)
         | (obtain ⟨lv', h1, h2⟩ := Option.map_eq_some_iff.mp hst; cases h2; done))
theorem am_run_le (hf : am_okF f) : ∀ (n : Nat) (σ : am_S) (r : Option Value) (h' : am_H), am_run f cd n σ = some (r, h') → am_le σ.2.2.2 h'
  | 0, _, _, _, e => by simp [am_run] at e
  | n + 1, σ, r, h', e => by
    unfold am_run at e
    obtain ⟨is0, lv, st, h⟩ := σ
    cases is0 with
    | nil => cases e
    | cons i is =>
      obtain ⟨pc, ins, a, b, v, sw⟩ := i
      cases hs : am_step f cd ((pc, ins, a, b, v, sw) :: is, lv, st, h) with
      | none => rw [hs] at e; cases e
      | some o =>
        rw [hs] at e
        cases o with
        | inl s' =>
          have h1 := (am_shape hf hs).2
          have h2 := am_run_le hf n s' r h' e
          exact ⟨Nat.le_trans h1.1 h2.1, Nat.le_trans h1.2 h2.2⟩
        | inr r' =>
          cases e
          rcases am_ends hs with ⟨x, -, -, -, hr⟩ | ⟨x, -, -, hr⟩ | ⟨-, -, hr⟩ <;> cases hr <;> exact am_le.rf
end AMR
section AMS
variable {p : Program} {l : Launch} {e : Env} {R : Room} {s : State} {m : MethodId} {args : Array Value} {below : List Frame} {meth : Method} {c : Code} {Q : State → Prop} {D : va_G} {dA : FieldType → ClassId} {b0 sz nL k0 n0 o d : Nat} {cc : ByteArray} {rt : Option FieldType} {ini : Bool} {ms : List am_Q} {f : am_F} {cd : List am_I} {h' : am_H} {r : Option Value}
theorem am_all (hms : ∀ (j : Nat) (q : am_Q), ms[j]? = some q → am_gd j q) (hM : am_M l D dA b0 sz ms d f) (hRf : d + 1 ≤ R.frames) (hRl : 64 * (d + 1) ≤ R.locals) (hbs : b0 < sz) (C : am_C D dA o cc nL rt ini p s m args meth c) {pc a b : Nat} {ins : Instr} {v : Value} {sw : List (Int32 × Nat)} {is : List am_I} {lv : am_L} {st : List Value} {h : am_H} {σ : am_S} (hst : am_ex f cd ins a b v sw is lv st h = some (.inl σ)) (hv : am_vi o ini rt cc (pc, ins, a, b, v, sw) (am_pc is) = true) (hne : σ.1 ≠ []) (hk0 : k0 ≤ h.1) (hn0 : n0 ≤ h.2.1) (hR : σ.2.2.2.1 - k0 ≤ R.cells ∧ σ.2.2.2.2.1 - n0 ≤ R.slots) (kk : am_G p l e R s m args below meth c Q D dA b0 sz nL k0 n0 σ) : am_G p l e R s m args below meth c Q D dA b0 sz nL k0 n0 ((pc, ins, a, b, v, sw) :: is, lv, st, h) := by
  by_cases h1 : am_pl1 ins = true
  · exact am_one1 C h1 hst hv kk
  by_cases h2 : am_pl2 ins = true
  · exact am_one2 C h2 hst hv kk
  by_cases h3 : am_pl3 ins = true
  · exact am_one3 C h3 hst hv hne kk
  by_cases h4 : am_pl4 ins = true
  · exact am_one4 hbs C h4 hst hv hk0 hn0 hR kk
  by_cases h5 : am_pl5 ins = true
  · exact am_one5 hms hM hRf hRl hbs C h5 hst hv hk0 hn0 hR kk
  exfalso
  cases ins <;> first
    | exact h1 rfl
    | exact h2 rfl
    | exact h3 rfl
    | exact h4 rfl
    | exact h5 rfl
    | (cases hst; done)
    | (simp only [am_ex] at hst
       repeat' split at hst
       all_goals (cases hst; done))
theorem am_runs (hms : ∀ (j : Nat) (q : am_Q), ms[j]? = some q → am_gd j q) (hM : am_M l D dA b0 sz ms d f) (hRf : d + 1 ≤ R.frames) (hRl : 64 * (d + 1) ≤ R.locals) (hbs : b0 < sz) (C : am_C D dA o cc nL rt ini p s m args meth c) (hcd : am_vl o ini rt cc cd = true) (hR : h'.1 - k0 ≤ R.cells ∧ h'.2.1 - n0 ≤ R.slots)
    (hI : ∀ x, r = some (.int x) → (rt = some .int ∨ (rt = some .boolean ∧ (x = 0 ∨ x = 1))) → ∀ (pc : Nat) (ls : Array Slot) (H : Heap) (locs : List Loc), decode cc pc = .ok (.ireturn, 1) → am_P D dA b0 sz h' s H → va_S (fun q => sz ≤ q) s.heap H locs → W p l e R s m args below meth c H locs (h'.1 - k0) (h'.2.1 - n0) Q (F0 m pc ls [.int x]))
    (hL : ∀ x, r = some (.long x) → rt = some .long → ∀ (pc : Nat) (ls : Array Slot) (H : Heap) (locs : List Loc), decode cc pc = .ok (.lreturn, 1) → am_P D dA b0 sz h' s H → va_S (fun q => sz ≤ q) s.heap H locs → W p l e R s m args below meth c H locs (h'.1 - k0) (h'.2.1 - n0) Q (F0 m pc ls [.long x]))
    (hV : r = none → rt = none → ∀ (pc : Nat) (ls : Array Slot) (H : Heap) (locs : List Loc), decode cc pc = .ok (.return_, 1) → am_P D dA b0 sz h' s H → va_S (fun q => sz ≤ q) s.heap H locs → W p l e R s m args below meth c H locs (h'.1 - k0) (h'.2.1 - n0) Q (F0 m pc ls [])) :
    ∀ (n : Nat) (σ : am_S), am_run f cd n σ = some (r, h') → am_vl o ini rt cc σ.1 = true → k0 ≤ σ.2.2.2.1 → n0 ≤ σ.2.2.2.2.1 → am_G p l e R s m args below meth c Q D dA b0 sz nL k0 n0 σ := by
  have hf : am_okF f := fun j As h r h' e => ⟨(hM j As h r h' e).1, (hM j As h r h' e).2.1⟩
  intro n
  induction n with
  | zero => intro σ hrun; simp [am_run] at hrun
  | succ n ih =>
    intro σ hrun hvl hk hn
    unfold am_run at hrun
    obtain ⟨is0, lv, st, h⟩ := σ
    cases is0 with
    | nil => cases hrun
    | cons i is =>
      obtain ⟨pc, ins, a, b, v, sw⟩ := i
      simp only [am_vl, Bool.and_eq_true] at hvl
      cases hs : am_step f cd ((pc, ins, a, b, v, sw) :: is, lv, st, h) with
      | none => rw [hs] at hrun; cases hrun
      | some oo =>
        rw [hs] at hrun
        cases oo with
        | inl s' =>
          dsimp only at hrun
          have hle := am_run_le hf n s' r h' hrun
          have hsh := am_shape hf hs
          have hne : s'.1 ≠ [] := by
            intro hnil
            obtain ⟨x1, x2, x3, x4⟩ := s'
            dsimp only at hnil
            subst hnil
            cases n <;> simp [am_run, am_step] at hrun
          have hvl' : am_vl o ini rt cc s'.1 = true := by
            rcases hsh.1 with h1 | ⟨t, h1⟩
            · rw [h1]; exact hvl.2
            · rw [h1]; exact am_vl_jmp t cd hcd
          refine am_all hms hM hRf hRl hbs C hs hvl.1 hne hk hn ?_ (ih s' hrun hvl' (Nat.le_trans hk hsh.2.1) (Nat.le_trans hn hsh.2.2))
          have := hle.1
          have := hle.2
          omega
        | inr r' =>
          cases hrun
          intro pc' hpc H locs ls hP hS hl
          obtain rfl : pc = pc' := hpc
          have hv := hvl.1
          rcases am_ends hs with ⟨x, rfl, rfl, hx, hr⟩ | ⟨x, rfl, rfl, hr⟩ | ⟨rfl, rfl, hr⟩
          · cases hr
            simp only [am_vi, Bool.and_eq_true, Bool.or_eq_true, decide_eq_true_eq] at hv
            refine hI x rfl ?_ pc ls H locs (am_dc_ok hv.1) hP hS
            rcases hv.2 with h1 | h1
            · exact Or.inl h1.1
            · refine Or.inr ⟨h1.1, ?_⟩
              rcases hx with h2 | h2
              · omega
              · exact h2
          · cases hr
            simp only [am_vi, Bool.and_eq_true, decide_eq_true_eq] at hv
            exact hL x rfl hv.2 pc ls H locs (am_dc_ok hv.1) hP hS
          · cases hr
            simp only [am_vi, Bool.and_eq_true, decide_eq_true_eq] at hv
            exact hV rfl hv.2 pc ls H locs (am_dc_ok hv.1) hP hS
end AMS
/-- every method's contract: what the abstract machine computes, the machine does -/
theorem am_ev_M (l : Launch) (D : va_G) (dA : FieldType → ClassId) (b0 sz : Nat) (hbs : b0 < sz) (ms : List am_Q) (hms : ∀ (j : Nat) (q : am_Q), ms[j]? = some q → am_gd j q) : ∀ d : Nat, am_M l D dA b0 sz ms d (am_ev ms d)
  | 0 => fun j As h r h' e => by cases e
  | d + 1 => by
    intro j As h r h' hev
    have ih := am_ev_M l D dA b0 sz hbs ms hms d
    have hf : am_okF (am_ev ms d) := fun j As h r h' e => ⟨(ih j As h r h' e).1, (ih j As h r h' e).2.1⟩
    unfold am_ev at hev
    cases hq : ms[j]? with
    | none => rw [hq] at hev; cases hev
    | some q =>
      rw [hq] at hev
      have hg := hms j q hq
      obtain ⟨o, y, cc, n, rt, ini, cd⟩ := q
      dsimp only at hev
      split at hev
      · rename_i hlen
        obtain ⟨nn, hrun⟩ := am_X_iff.mp hev
        obtain ⟨g1, g2, g3, g4, g5, g6, g7, g8, g9, g10⟩ := hg
        have hle := am_run_le hf nn _ r h' hrun
        refine ⟨hle.1, hle.2, _, rfl, ?_⟩
        refine Met.ofW (cc := cc) (maxL := n) (ret := rt) g5 rfl ?_
        intro p e s m args below meth c s₁ B hml hv
        obtain ⟨rfl, hP, hK⟩ := hv
        have hts := atoms_spec (ws := .code y cc n rt :: am_tb) B.pre
        have C : am_C D dA o cc n rt ini p s m (As.map (am_rl b0 sz)).toArray meth c := ⟨B.exec, B.bytes, hml, by rw [g2]; exact findClass_of_methodNamed B.named, fun w hw => hts w (List.mem_cons_of_mem _ hw), B.returns, B.notSynchronized, fun hi => by rw [(name_of_methodNamed B.named B.method).1]; exact g7 hi, hK⟩
        rw [lg_entry_eq]
        have hlk : meth.locks = false := B.notSynchronized
        have key := am_runs (l := l) (e := e) (below := below) (R := am_rm (d + 1) (h'.1 - h.1) (h'.2.1 - h.2.1)) (Q := MQ below (am_Qc D dA b0 sz r h') (As.map (am_rl b0 sz)).toArray s (h'.1 - h.1) (h'.2.1 - h.2.1) (fun q => sz ≤ q)) (k0 := h.1) (n0 := h.2.1) (r := r) (h' := h') hms ih (Nat.le_refl _) (Nat.le_refl _) hbs C g9 ⟨Nat.le_refl _, Nat.le_refl _⟩
          (fun x hr hrt pc ls H locs hd hP' hS => by
            subst hr
            rcases hrt with hrt | ⟨hrt, hx⟩
            · exact W.iret B.exec B.bytes (by rw [B.returns]; exact hrt) (fun t ht hW => ⟨rfl, by rw [ht]; exact hP'.moved hW.alike, hS.F ht⟩) hS.2.2 hd
            · exact W.zret B.exec B.bytes (by rw [B.returns]; exact hrt) (am_nar_bool hx) (fun t ht hW => ⟨rfl, by rw [ht]; exact hP'.moved hW.alike, hS.F ht⟩) hS.2.2 hd)
          (fun x hr hrt pc ls H locs hd hP' hS => by
            subst hr
            exact W.lret B.exec B.bytes (by rw [B.returns]; exact hrt) (fun t ht hW => ⟨rfl, by rw [ht]; exact hP'.moved hW.alike, hS.F ht⟩) hS.2.2 hd)
          (fun hr hrt pc ls H locs hd hP' hS => by
            subst hr
            exact W.vret B.exec B.bytes (by rw [B.returns]; exact hrt) (fun t ht hW => ⟨rfl, by rw [ht]; exact hP'.moved hW.alike, hS.F ht⟩) hS.2.2 hd)
          nn _ hrun g9 (Nat.le_refl _) (Nat.le_refl _) 0 g10 s.heap [] _ hP va_S.rf (am_lv.entry n b0 sz As hlen)
        dsimp only at key
        rw [Nat.sub_self, Nat.sub_self] at key
        exact key
      · cases hev
end
section
/-! THE CLAIM OUT OF ONE WALK OF THE LAW'S BODY. Your part is whole_start (and what it stands on); all else here is the same for every law, but numbers. -/
def R_law : String := "CellYardLaw"
def lw_P (b : Addr) (xs : List Int32) (args : Array Value) (s : State) : Prop := args = #[.ref b] ∧ s.IntsAt b xs ∧ xs.length ≤ 2560 ∧ (Jvm.Cond.and given_1 narrow_1).before args s = true
def lw_Q (_ : Array Value) (s : State) (o : Outcome) (t : State) : Prop := o = .returned (some (.int 1)) ∧ Framed s o t [] 600000 7302250
def lw_Z (below : List Frame) (a : Array Value) (s : State) : State → Prop := fun t => ∃ o, t.status = .running ∧ Ended t below o ∧ lw_Q a s o t
/-- the law's own end, with 1 on the stack, nothing written that was there before, its room as the claim has it -/
theorem lw_ret {p : Program} {l : Launch} {e : Env} {s : State} {m : MethodId} {below : List Frame} {meth : Method} {c : Code} {b : Nat} (hx : p.tables.exec = Jvm.exec) (hb : c.code = code) (hr : meth.sig.returnType = ret) (hlocks : meth.locks = false) {pc : Nat} {H : Heap} {ls : Array Slot} (hdg : decode code pc = .ok (.ireturn, 1)) : W p l e room_1 s m #[Value.ref b] below meth c H [] 600000 7302250 (lw_Z below #[Value.ref b] s) (F0 m pc ls [.int 1]) := by
  intro T hT X
  obtain ⟨fs, hret, hrun, hended, hW, hframe⟩ := X.leave (v := some (.int 1)) (hlocks := hlocks) (fun h => by rw [hr] at h; cases h)
  have hmeth' : T.vm.method? m = some meth := X.method'
  refine ⟨T.setFrames fs, ?_, .returned (some (.int 1)), hrun, hended, rfl, ⟨_, rfl⟩, hW, hframe⟩
  jvm_step X.here [X.here.top, hx, hb, hdg, hmeth', hr, ret, narrow_b1]
  (try refine ⟨rfl, ?_⟩); (try refine ⟨rfl, ?_⟩)
  first | (intro acts; rw [hret _ acts rfl rfl rfl]) | rw [hret _ _ rfl rfl rfl]
  exact Steps.refl _
/-- what holds at the law's entry: the machine, the code, the tables' words (any of lw_tbl by 'hts w (by decide +kernel)'), the script of L ints xs at the cell b, what the Statement gives of the start (any of its parts by flat_of_before) -/
def lw_At (p : Program) (s : State) (m : MethodId) (meth : Method) (c : Code) (b L : Nat) (xs : Nat → Int32) : Prop :=
  p.tables.exec = Jvm.exec ∧ c.code = code ∧ meth.sig.returnType = ret ∧ c.maxLocals = 4 ∧ s.vm.findClass R_law = some m.cls ∧ (∀ w ∈ lw_tbl, w.before #[Value.ref b] s = true) ∧ va_X b L xs s s.heap ∧ b < s.heap.size ∧ meth.locks = false ∧ (Jvm.Cond.and given_1 narrow_1).before #[Value.ref b] s = true
/-! The law's walk out of one equation about the abstract machine (the rows above are the skeleton's). -/
theorem am_inst (k : Nat) (h : k < 6) : Cond.instantiable (am_cn k) (am_N k) ∈ am_tb := by
  have h1 : am_nl.any (fun q => decide (q.2.2.1 = k)) = true := by
    match k, h with
    | 0, _ => decide
    | 1, _ => decide
    | 2, _ => decide
    | 3, _ => decide
    | 4, _ => decide
    | 5, _ => decide
  obtain ⟨q, hq, h2⟩ := List.any_eq_true.mp h1
  have h3 := List.all_eq_true.mp am_nl_ok q hq
  obtain ⟨o', i', a', p, p2, p3⟩ := q
  simp only [decide_eq_true_eq] at h2
  subst h2
  simp only [am_nk, Bool.and_eq_true, decide_eq_true_eq] at h3
  exact am_wd_ok h3.1.2
theorem am_arr {args : Array Value} {s : State} {ty : FieldType} (h : (Cond.arrayClass ty).before args s = true) : ∃ cA : ClassId, ArrOfT s cA ty ∧ s.vm.findClass ("[" ++ ty.toString) = some cA := by
  obtain ⟨cA, kA, comp, hfind, hk, hkind⟩ := Cond.arrayClass_spec h
  exact ⟨cA, fun n z => ⟨fun k h => (by cases h), kA, hk, comp, hkind⟩, hfind⟩
/-- the places at the law's entry: the script alone -/
def am_h0 (L : Nat) (xs : Nat → Int32) : am_H := (0, 0, fun k => if k = 0 then some (.inl (.int, L, .inl xs)) else none)
theorem am_law {p : Program} {e : Env} {s : State} {m : MethodId} {below : List Frame} {meth : Method} {c : Code} (l : Launch) {b L : Nat} {xs : Nat → Int32} (ms : List am_Q) (hms : ∀ (j : Nat) (q : am_Q), ms[j]? = some q → am_gd j q) (cd : List am_I) (hcd : am_vl 6 false ret code cd = true) (hpc : am_pc cd = 0) (d : Nat) (hd : d + 1 ≤ 1312) (h' : am_H) (hcells : h'.1 ≤ 600000) (hslots : h'.2.1 ≤ 7302250)
    (hrun : am_X (am_ev ms d) cd (cd, [some (.ref 0), none, none, none], [], am_h0 L xs) = some (some (.int 1), h')) (C0 : lw_At p s m meth c b L xs) : W p l e room_1 s m #[Value.ref b] below meth c s.heap [] 0 0 (lw_Z below #[Value.ref b] s) (entryFrame m ([Value.ref b] : List Value).toArray 4) := by
  obtain ⟨hx, hb, hr, hml, hown, hts, hX, hbl, hlocks, hgv⟩ := id C0
  have hts' : ∀ w ∈ am_tb, w.before #[Value.ref b] s = true := fun w h => hts w (am_tb_in w h)
  have hkn : ∀ k : Nat, ∃ z : ClassId × (Nat → Nat), k < 6 → u_Kn s (am_cn k) (am_T k) (am_N k) z.1 z.2 := by
    intro k
    by_cases hk : k < 6
    · obtain ⟨cC, iS, h1⟩ := u_known (C := am_cn k) (T := am_T k) (N := am_N k) (n := am_N k) hts' (am_cls k hk).2.1 (hts' _ (am_inst k hk))
      exact ⟨(cC, iS), fun _ => h1⟩
    · exact ⟨(0, fun _ => 0), fun h => absurd h hk⟩
  obtain ⟨cI, hI1, hI2⟩ := am_arr (hts' _ am_w_int)
  obtain ⟨cL, hL1, hL2⟩ := am_arr (hts' _ am_w_long)
  obtain ⟨cB, hB1, hB2⟩ := am_arr (hts' _ am_w_boolean)
  obtain ⟨dz, hdz⟩ := Classical.axiomOfChoice hkn
  have hK : am_K ((fun k => (dz k).1), (fun k => (dz k).2)) (fun ty => match ty with | .int => cI | .long => cL | _ => cB) s := by
    refine ⟨⟨fun k q hq => ?_, fun k q hq => ?_⟩, fun w hw => ?_⟩
    · have hk : k < 6 := (List.getElem?_eq_some_iff.mp hq).1
      have h1 := (am_cls k hk).1
      rw [hq] at h1
      cases h1
      exact hdz k hk
    · have hk : k < 3 := (List.getElem?_eq_some_iff.mp hq).1
      match k, hk with
      | 0, _ => cases hq; exact ⟨hI1, hI2⟩
      | 1, _ => cases hq; exact ⟨hL1, hL2⟩
      | 2, _ => cases hq; exact ⟨hB1, hB2⟩
    · obtain ⟨a, i, x, q, rfl⟩ := am_nst_form w hw
      exact va_Nw.of rfl (hts _ (am_nst_in _ hw))
  generalize ((fun k => (dz k).1), (fun k => (dz k).2)) = D at hK
  generalize (fun ty : FieldType => match ty with | .int => cI | .long => cL | _ => cB) = dA at hK
  have hP : am_P D dA b s.heap.size (am_h0 L xs) s s.heap := by
    refine ⟨rfl, fun k e' h => ?_, fun e' h => ?_⟩
    · simp [am_h0] at h
    · simp [am_h0] at h
      subst h
      exact ⟨L, xs, rfl, hX⟩
  have C : am_C D dA 6 code 4 ret false p s m #[Value.ref b] meth c := ⟨hx, hb, hml, hown, hts', hr, hlocks, fun h => (by cases h), hK⟩
  obtain ⟨nn, hn⟩ := am_X_iff.mp hrun
  have hM := am_ev_M l D dA b s.heap.size hbl ms hms d
  have hen := am_lv.entry 4 b s.heap.size [.ref 0] (by decide)
  have key := am_runs (l := l) (e := e) (below := below) (R := room_1) (Q := lw_Z below #[Value.ref b] s) (k0 := 0) (n0 := 0) (r := some (.int 1)) (h' := h') hms hM (by show d + 1 ≤ 2048; omega) (by show 64 * (d + 1) ≤ 84000; omega) hbl C hcd ⟨by show h'.1 - 0 ≤ 600000; omega, by show h'.2.1 - 0 ≤ 7302250; omega⟩
    (fun x hr2 hrt pc ls H locs hd2 hP' hS => by
      cases hr2
      refine W.widen (k := 600000) (n := 7302250) (by omega) (by omega) ?_
      refine va_forget (fun q hq => hS.2.2 q hq) ?_
      exact lw_ret hx hb hr hlocks hd2)
    (fun x hr2 => by cases hr2)
    (fun hr2 => by cases hr2)
    nn _ hn hcd (Nat.zero_le _) (Nat.zero_le _) 0 hpc s.heap [] _ hP va_S.rf hen
  rw [lg_entry_eq]
  exact key
end
section
def am_vb (o : Nat) (ini : Bool) (rt : Option FieldType) (cc : ByteArray) : List am_I → Nat → Bool
  | [], _ => true
  | [e], nx => am_vi o ini rt cc e nx
  | e :: e' :: r, nx => am_vi o ini rt cc e e'.1 && am_vb o ini rt cc (e' :: r) nx
theorem am_vb_vl {o : Nat} {ini : Bool} {rt : Option FieldType} {cc : ByteArray} {nx : Nat} {tl : List am_I} (ht : am_pc tl = nx) (hv : am_vl o ini rt cc tl = true) : ∀ es : List am_I, am_vb o ini rt cc es nx = true → am_vl o ini rt cc (es ++ tl) = true
  | [], _ => hv
  | [e], h => by
    show am_vl o ini rt cc (e :: tl) = true
    simp only [am_vl, Bool.and_eq_true]
    exact ⟨by rw [ht]; exact h, hv⟩
  | e :: e' :: r, h => by
    simp only [am_vb, Bool.and_eq_true] at h
    show am_vl o ini rt cc (e :: (e' :: r ++ tl)) = true
    rw [am_vl, Bool.and_eq_true]
    exact ⟨h.1, am_vb_vl ht hv (e' :: r) h.2⟩
theorem am_vt {o : Nat} {ini : Bool} {rt : Option FieldType} {cc : ByteArray} {bl tl : List am_I} (n nx : Nat) (h : am_vb o ini rt cc (bl.take n) nx = true) (hd : bl.drop n = tl) (ht : am_pc tl = nx) (hv : am_vl o ini rt cc tl = true) : am_vl o ini rt cc bl = true := by
  rw [← List.take_append_drop n bl, hd]
  exact am_vb_vl ht hv _ h
def B0_init_44 : List am_I := (44, .putfield 33, 0, 1, .null, []) :: (47, .return_, 0, 0, .null, []) :: []
def B0_init_0 : List am_I := (0, .aload_n 0, 0, 0, .null, []) :: (1, .invokespecial 3, 0, 0, .null, []) :: (4, .aload_n 0, 0, 0, .null, []) :: (5, .sipush 808, 0, 0, .int 808, []) :: (8, .newarray .int, 0, 0, .null, []) :: (10, .putfield 11, 0, 2, .null, []) :: (13, .aload_n 0, 0, 0, .null, []) :: (14, .sipush 400, 0, 0, .int 400, []) :: (17, .newarray .long, 0, 0, .null, []) :: (19, .putfield 15, 0, 3, .null, []) :: (22, .aload_n 0, 0, 0, .null, []) :: (23, .iconst 0, 0, 0, .int 0, []) :: (24, .putfield 19, 0, 4, .null, []) :: (27, .aload_n 0, 0, 0, .null, []) :: (28, .iconst 0, 0, 0, .int 0, []) :: (29, .putfield 23, 0, 5, .null, []) :: (32, .aload_n 0, 0, 0, .null, []) :: (33, .iconst 0, 0, 0, .int 0, []) :: (34, .putfield 26, 0, 6, .null, []) :: (37, .aload_n 0, 0, 0, .null, []) :: (38, .aload_n 1, 0, 0, .null, []) :: (39, .putfield 29, 0, 0, .null, []) :: (42, .aload_n 0, 0, 0, .null, []) :: (43, .aload_n 2, 0, 0, .null, []) :: B0_init_44
set_option maxRecDepth 20000 in
theorem vB0_init_44 : am_vl 0 true none cX0_init B0_init_44 = true := am_vt (tl := []) 2 0 (by decide +kernel) rfl rfl rfl
set_option maxRecDepth 20000 in
theorem vB0_init_0 : am_vl 0 true none cX0_init B0_init_0 = true := am_vt (tl := B0_init_44) 24 44 (by decide +kernel) rfl rfl vB0_init_44
def B0_toldDropped_0 : List am_I := (0, .aload_n 0, 0, 0, .null, []) :: (1, .getfield 26, 0, 6, .null, []) :: (4, .ireturn, 0, 0, .null, []) :: []
set_option maxRecDepth 20000 in
theorem vB0_toldDropped_0 : am_vl 0 false (some .int) cX0_toldDropped B0_toldDropped_0 = true := am_vt (tl := []) 3 0 (by decide +kernel) rfl rfl rfl
def B0_outLength_0 : List am_I := (0, .aload_n 0, 0, 0, .null, []) :: (1, .getfield 23, 0, 5, .null, []) :: (4, .ireturn, 0, 0, .null, []) :: []
set_option maxRecDepth 20000 in
theorem vB0_outLength_0 : am_vl 0 false (some .int) cX0_outLength B0_outLength_0 = true := am_vt (tl := []) 3 0 (by decide +kernel) rfl rfl rfl
def B0_toldAs_22 : List am_I := (22, .lreturn, 0, 0, .null, []) :: []
def B0_toldAs_21 : List am_I := (21, .lconst 0, 0, 0, .long 0, []) :: B0_toldAs_22
def B0_toldAs_0 : List am_I := (0, .iload_n 1, 0, 0, .null, []) :: (1, .ifCond .lt 20, 21, 0, .null, []) :: (4, .iload_n 1, 0, 0, .null, []) :: (5, .aload_n 0, 0, 0, .null, []) :: (6, .getfield 23, 0, 5, .null, []) :: (9, .if_icmp .ge 12, 21, 0, .null, []) :: (12, .aload_n 0, 0, 0, .null, []) :: (13, .getfield 15, 0, 3, .null, []) :: (16, .iload_n 1, 0, 0, .null, []) :: (17, .laload, 0, 0, .null, []) :: (18, .goto 4, 22, 0, .null, []) :: B0_toldAs_21
set_option maxRecDepth 20000 in
theorem vB0_toldAs_22 : am_vl 0 false (some .long) cX0_toldAs B0_toldAs_22 = true := am_vt (tl := []) 1 0 (by decide +kernel) rfl rfl rfl
set_option maxRecDepth 20000 in
theorem vB0_toldAs_21 : am_vl 0 false (some .long) cX0_toldAs B0_toldAs_21 = true := am_vt (tl := B0_toldAs_22) 1 22 (by decide +kernel) rfl rfl vB0_toldAs_22
set_option maxRecDepth 20000 in
theorem vB0_toldAs_0 : am_vl 0 false (some .long) cX0_toldAs B0_toldAs_0 = true := am_vt (tl := B0_toldAs_21) 11 21 (by decide +kernel) rfl rfl vB0_toldAs_21
def B0_dropValue_70 : List am_I := (70, .return_, 0, 0, .null, []) :: []
def B0_dropValue_57 : List am_I := (57, .iaload, 0, 0, .null, []) :: (58, .bipush 24, 0, 0, .int 24, []) :: (60, .idiv, 0, 0, .null, []) :: (61, .invokevirtual 42, 6, 2, .ref 0, []) :: (64, .iinc 3 1, 0, 0, .int 1, []) :: (67, .goto (-54), 13, 0, .null, []) :: B0_dropValue_70
def B0_dropValue_13 : List am_I := (13, .aload_n 0, 0, 0, .null, []) :: (14, .getfield 19, 0, 4, .null, []) :: (17, .ifCond .le 53, 70, 0, .null, []) :: (20, .iload_n 3, 0, 0, .null, []) :: (21, .ldc 41, 0, 0, .int 1000000, []) :: (23, .if_icmp .ge 47, 70, 0, .null, []) :: (26, .aload_n 0, 0, 0, .null, []) :: (27, .dup, 0, 0, .null, []) :: (28, .getfield 19, 0, 4, .null, []) :: (31, .iconst 1, 0, 0, .int 1, []) :: (32, .isub, 0, 0, .null, []) :: (33, .putfield 19, 0, 4, .null, []) :: (36, .aload_n 0, 0, 0, .null, []) :: (37, .aload_n 0, 0, 0, .null, []) :: (38, .getfield 11, 0, 2, .null, []) :: (41, .aload_n 0, 0, 0, .null, []) :: (42, .getfield 19, 0, 4, .null, []) :: (45, .iaload, 0, 0, .null, []) :: (46, .bipush 24, 0, 0, .int 24, []) :: (48, .irem, 0, 0, .null, []) :: (49, .aload_n 0, 0, 0, .null, []) :: (50, .getfield 11, 0, 2, .null, []) :: (53, .aload_n 0, 0, 0, .null, []) :: (54, .getfield 19, 0, 4, .null, []) :: B0_dropValue_57
def B0_dropValue_0 : List am_I := (0, .aload_n 0, 0, 0, .null, []) :: (1, .iconst 0, 0, 0, .int 0, []) :: (2, .putfield 19, 0, 4, .null, []) :: (5, .aload_n 0, 0, 0, .null, []) :: (6, .iload_n 1, 0, 0, .null, []) :: (7, .iload_n 2, 0, 0, .null, []) :: (8, .invokevirtual 37, 5, 2, .ref 0, []) :: (11, .iconst 0, 0, 0, .int 0, []) :: (12, .istore_n 3, 0, 0, .null, []) :: B0_dropValue_13
set_option maxRecDepth 20000 in
theorem vB0_dropValue_70 : am_vl 0 false none cX0_dropValue B0_dropValue_70 = true := am_vt (tl := []) 1 0 (by decide +kernel) rfl rfl rfl
set_option maxRecDepth 20000 in
theorem vB0_dropValue_57 : am_vl 0 false none cX0_dropValue B0_dropValue_57 = true := am_vt (tl := B0_dropValue_70) 6 70 (by decide +kernel) rfl rfl vB0_dropValue_70
set_option maxRecDepth 20000 in
theorem vB0_dropValue_13 : am_vl 0 false none cX0_dropValue B0_dropValue_13 = true := am_vt (tl := B0_dropValue_57) 24 57 (by decide +kernel) rfl rfl vB0_dropValue_57
set_option maxRecDepth 20000 in
theorem vB0_dropValue_0 : am_vl 0 false none cX0_dropValue B0_dropValue_0 = true := am_vt (tl := B0_dropValue_13) 9 13 (by decide +kernel) rfl rfl vB0_dropValue_13
def B0_await_43 : List am_I := (43, .return_, 0, 0, .null, []) :: []
def B0_await_0 : List am_I := (0, .iload_n 1, 0, 0, .null, []) :: (1, .ifCond .lt 42, 43, 0, .null, []) :: (4, .iload_n 2, 0, 0, .null, []) :: (5, .ifCond .lt 38, 43, 0, .null, []) :: (8, .aload_n 0, 0, 0, .null, []) :: (9, .getfield 19, 0, 4, .null, []) :: (12, .sipush 808, 0, 0, .int 808, []) :: (15, .if_icmp .ge 28, 43, 0, .null, []) :: (18, .aload_n 0, 0, 0, .null, []) :: (19, .getfield 11, 0, 2, .null, []) :: (22, .aload_n 0, 0, 0, .null, []) :: (23, .getfield 19, 0, 4, .null, []) :: (26, .iload_n 2, 0, 0, .null, []) :: (27, .bipush 24, 0, 0, .int 24, []) :: (29, .imul, 0, 0, .null, []) :: (30, .iload_n 1, 0, 0, .null, []) :: (31, .iadd, 0, 0, .null, []) :: (32, .iastore, 0, 0, .null, []) :: (33, .aload_n 0, 0, 0, .null, []) :: (34, .dup, 0, 0, .null, []) :: (35, .getfield 19, 0, 4, .null, []) :: (38, .iconst 1, 0, 0, .int 1, []) :: (39, .iadd, 0, 0, .null, []) :: (40, .putfield 19, 0, 4, .null, []) :: B0_await_43
set_option maxRecDepth 20000 in
theorem vB0_await_43 : am_vl 0 false none cX0_await B0_await_43 = true := am_vt (tl := []) 1 0 (by decide +kernel) rfl rfl rfl
set_option maxRecDepth 20000 in
theorem vB0_await_0 : am_vl 0 false none cX0_await B0_await_0 = true := am_vt (tl := B0_await_43) 24 43 (by decide +kernel) rfl rfl vB0_await_43
def B0_dropOne_133 : List am_I := (133, .return_, 0, 0, .null, []) :: []
def B0_dropOne_117 : List am_I := (117, .aload_n 0, 0, 0, .null, []) :: (118, .iload_n 1, 0, 0, .null, []) :: (119, .aload_n 0, 0, 0, .null, []) :: (120, .getfield 33, 0, 1, .null, []) :: (123, .iload_n 2, 0, 0, .null, []) :: (124, .invokevirtual 51, 29, 1, .ref 2, []) :: (127, .invokevirtual 72, 10, 2, .ref 0, []) :: (130, .goto 3, 133, 0, .null, []) :: B0_dropOne_133
def B0_dropOne_101 : List am_I := (101, .aload_n 0, 0, 0, .null, []) :: (102, .iload_n 1, 0, 0, .null, []) :: (103, .aload_n 0, 0, 0, .null, []) :: (104, .getfield 33, 0, 1, .null, []) :: (107, .iload_n 2, 0, 0, .null, []) :: (108, .invokevirtual 51, 29, 1, .ref 2, []) :: (111, .invokevirtual 68, 9, 2, .ref 0, []) :: (114, .goto 19, 133, 0, .null, []) :: B0_dropOne_117
def B0_dropOne_74 : List am_I := (74, .aload_n 0, 0, 0, .null, []) :: (75, .aload_n 0, 0, 0, .null, []) :: (76, .getfield 29, 0, 0, .null, []) :: (79, .iload_n 1, 0, 0, .null, []) :: (80, .aload_n 0, 0, 0, .null, []) :: (81, .getfield 33, 0, 1, .null, []) :: (84, .iload_n 2, 0, 0, .null, []) :: (85, .invokevirtual 51, 29, 1, .ref 2, []) :: (88, .l2i, 0, 0, .null, []) :: (89, .invokevirtual 64, 56, 2, .ref 3, []) :: (92, .iload_n 2, 0, 0, .null, []) :: (93, .iconst 1, 0, 0, .int 1, []) :: (94, .iadd, 0, 0, .null, []) :: (95, .invokevirtual 37, 5, 2, .ref 0, []) :: (98, .goto 35, 133, 0, .null, []) :: B0_dropOne_101
def B0_dropOne_65 : List am_I := (65, .aload_n 0, 0, 0, .null, []) :: (66, .iload_n 1, 0, 0, .null, []) :: (67, .iload_n 2, 0, 0, .null, []) :: (68, .invokevirtual 61, 8, 2, .ref 0, []) :: (71, .goto 62, 133, 0, .null, []) :: B0_dropOne_74
def B0_dropOne_44 : List am_I := (44, .aload_n 0, 0, 0, .null, []) :: (45, .aload_n 0, 0, 0, .null, []) :: (46, .getfield 33, 0, 1, .null, []) :: (49, .iload_n 2, 0, 0, .null, []) :: (50, .invokevirtual 51, 29, 1, .ref 2, []) :: (53, .invokevirtual 57, 7, 1, .ref 0, []) :: (56, .aload_n 0, 0, 0, .null, []) :: (57, .iload_n 1, 0, 0, .null, []) :: (58, .iload_n 2, 0, 0, .null, []) :: (59, .invokevirtual 61, 8, 2, .ref 0, []) :: (62, .goto 71, 133, 0, .null, []) :: B0_dropOne_65
def B0_dropOne_0 : List am_I := (0, .aload_n 0, 0, 0, .null, []) :: (1, .getfield 29, 0, 0, .null, []) :: (4, .iload_n 1, 0, 0, .null, []) :: (5, .invokevirtual 45, 54, 1, .ref 3, []) :: (8, .tableswitch 125 1 5 #[57, 36, 66, 93, 109], 133, 0, .null, [(1, 65), (2, 44), (3, 74), (4, 101), (5, 117)]) :: B0_dropOne_44
set_option maxRecDepth 20000 in
theorem vB0_dropOne_133 : am_vl 0 false none cX0_dropOne B0_dropOne_133 = true := am_vt (tl := []) 1 0 (by decide +kernel) rfl rfl rfl
set_option maxRecDepth 20000 in
theorem vB0_dropOne_117 : am_vl 0 false none cX0_dropOne B0_dropOne_117 = true := am_vt (tl := B0_dropOne_133) 8 133 (by decide +kernel) rfl rfl vB0_dropOne_133
set_option maxRecDepth 20000 in
theorem vB0_dropOne_101 : am_vl 0 false none cX0_dropOne B0_dropOne_101 = true := am_vt (tl := B0_dropOne_117) 8 117 (by decide +kernel) rfl rfl vB0_dropOne_117
set_option maxRecDepth 20000 in
theorem vB0_dropOne_74 : am_vl 0 false none cX0_dropOne B0_dropOne_74 = true := am_vt (tl := B0_dropOne_101) 15 101 (by decide +kernel) rfl rfl vB0_dropOne_101
set_option maxRecDepth 20000 in
theorem vB0_dropOne_65 : am_vl 0 false none cX0_dropOne B0_dropOne_65 = true := am_vt (tl := B0_dropOne_74) 5 74 (by decide +kernel) rfl rfl vB0_dropOne_74
set_option maxRecDepth 20000 in
theorem vB0_dropOne_44 : am_vl 0 false none cX0_dropOne B0_dropOne_44 = true := am_vt (tl := B0_dropOne_65) 11 65 (by decide +kernel) rfl rfl vB0_dropOne_65
set_option maxRecDepth 20000 in
theorem vB0_dropOne_0 : am_vl 0 false none cX0_dropOne B0_dropOne_0 = true := am_vt (tl := B0_dropOne_44) 5 44 (by decide +kernel) rfl rfl vB0_dropOne_44
def B0_tell_40 : List am_I := (40, .return_, 0, 0, .null, []) :: []
def B0_tell_0 : List am_I := (0, .aload_n 0, 0, 0, .null, []) :: (1, .dup, 0, 0, .null, []) :: (2, .getfield 26, 0, 6, .null, []) :: (5, .iconst 1, 0, 0, .int 1, []) :: (6, .iadd, 0, 0, .null, []) :: (7, .putfield 26, 0, 6, .null, []) :: (10, .aload_n 0, 0, 0, .null, []) :: (11, .getfield 23, 0, 5, .null, []) :: (14, .sipush 400, 0, 0, .int 400, []) :: (17, .if_icmp .ge 23, 40, 0, .null, []) :: (20, .aload_n 0, 0, 0, .null, []) :: (21, .getfield 15, 0, 3, .null, []) :: (24, .aload_n 0, 0, 0, .null, []) :: (25, .getfield 23, 0, 5, .null, []) :: (28, .lload_n 1, 0, 0, .null, []) :: (29, .lastore, 0, 0, .null, []) :: (30, .aload_n 0, 0, 0, .null, []) :: (31, .dup, 0, 0, .null, []) :: (32, .getfield 23, 0, 5, .null, []) :: (35, .iconst 1, 0, 0, .int 1, []) :: (36, .iadd, 0, 0, .null, []) :: (37, .putfield 23, 0, 5, .null, []) :: B0_tell_40
set_option maxRecDepth 20000 in
theorem vB0_tell_40 : am_vl 0 false none cX0_tell B0_tell_40 = true := am_vt (tl := []) 1 0 (by decide +kernel) rfl rfl rfl
set_option maxRecDepth 20000 in
theorem vB0_tell_0 : am_vl 0 false none cX0_tell B0_tell_0 = true := am_vt (tl := B0_tell_40) 22 40 (by decide +kernel) rfl rfl vB0_tell_40
def B0_awaitFields_56 : List am_I := (56, .return_, 0, 0, .null, []) :: []
def B0_awaitFields_14 : List am_I := (14, .iload 4, 0, 0, .null, []) :: (16, .ifCond .lt 40, 56, 0, .null, []) :: (19, .aload_n 0, 0, 0, .null, []) :: (20, .getfield 29, 0, 0, .null, []) :: (23, .iload_n 1, 0, 0, .null, []) :: (24, .iload 4, 0, 0, .null, []) :: (26, .invokevirtual 64, 56, 2, .ref 3, []) :: (29, .istore 5, 0, 0, .null, []) :: (31, .iload_n 3, 0, 0, .null, []) :: (32, .aload_n 0, 0, 0, .null, []) :: (33, .getfield 29, 0, 0, .null, []) :: (36, .iload 5, 0, 0, .null, []) :: (38, .invokevirtual 75, 55, 1, .ref 3, []) :: (41, .isub, 0, 0, .null, []) :: (42, .istore_n 3, 0, 0, .null, []) :: (43, .aload_n 0, 0, 0, .null, []) :: (44, .iload 5, 0, 0, .null, []) :: (46, .iload_n 3, 0, 0, .null, []) :: (47, .invokevirtual 37, 5, 2, .ref 0, []) :: (50, .iinc 4 (-1), 0, 0, .int (-1), []) :: (53, .goto (-39), 14, 0, .null, []) :: B0_awaitFields_56
def B0_awaitFields_0 : List am_I := (0, .iload_n 2, 0, 0, .null, []) :: (1, .aload_n 0, 0, 0, .null, []) :: (2, .getfield 29, 0, 0, .null, []) :: (5, .iload_n 1, 0, 0, .null, []) :: (6, .invokevirtual 75, 55, 1, .ref 3, []) :: (9, .iadd, 0, 0, .null, []) :: (10, .istore_n 3, 0, 0, .null, []) :: (11, .iconst 2, 0, 0, .int 2, []) :: (12, .istore 4, 0, 0, .null, []) :: B0_awaitFields_14
set_option maxRecDepth 20000 in
theorem vB0_awaitFields_56 : am_vl 0 false none cX0_awaitFields B0_awaitFields_56 = true := am_vt (tl := []) 1 0 (by decide +kernel) rfl rfl rfl
set_option maxRecDepth 20000 in
theorem vB0_awaitFields_14 : am_vl 0 false none cX0_awaitFields B0_awaitFields_14 = true := am_vt (tl := B0_awaitFields_56) 21 56 (by decide +kernel) rfl rfl vB0_awaitFields_56
set_option maxRecDepth 20000 in
theorem vB0_awaitFields_0 : am_vl 0 false none cX0_awaitFields B0_awaitFields_0 = true := am_vt (tl := B0_awaitFields_14) 9 14 (by decide +kernel) rfl rfl vB0_awaitFields_14
def B0_awaitBoxed_0 : List am_I := (0, .aload_n 0, 0, 0, .null, []) :: (1, .getfield 33, 0, 1, .null, []) :: (4, .lload_n 2, 0, 0, .null, []) :: (5, .invokevirtual 78, 39, 1, .ref 2, []) :: (8, .aload_n 0, 0, 0, .null, []) :: (9, .aload_n 0, 0, 0, .null, []) :: (10, .getfield 29, 0, 0, .null, []) :: (13, .iload_n 1, 0, 0, .null, []) :: (14, .iconst 0, 0, 0, .int 0, []) :: (15, .invokevirtual 64, 56, 2, .ref 3, []) :: (18, .aload_n 0, 0, 0, .null, []) :: (19, .getfield 33, 0, 1, .null, []) :: (22, .lload_n 2, 0, 0, .null, []) :: (23, .invokevirtual 81, 43, 1, .ref 2, []) :: (26, .invokevirtual 37, 5, 2, .ref 0, []) :: (29, .return_, 0, 0, .null, []) :: []
set_option maxRecDepth 20000 in
theorem vB0_awaitBoxed_0 : am_vl 0 false none cX0_awaitBoxed B0_awaitBoxed_0 = true := am_vt (tl := []) 16 0 (by decide +kernel) rfl rfl rfl
def B0_awaitElements_54 : List am_I := (54, .return_, 0, 0, .null, []) :: []
def B0_awaitElements_20 : List am_I := (20, .iload 4, 0, 0, .null, []) :: (22, .ifCond .lt 32, 54, 0, .null, []) :: (25, .aload_n 0, 0, 0, .null, []) :: (26, .aload_n 0, 0, 0, .null, []) :: (27, .getfield 29, 0, 0, .null, []) :: (30, .iload_n 1, 0, 0, .null, []) :: (31, .iconst 0, 0, 0, .int 0, []) :: (32, .invokevirtual 64, 56, 2, .ref 3, []) :: (35, .aload_n 0, 0, 0, .null, []) :: (36, .getfield 33, 0, 1, .null, []) :: (39, .lload_n 2, 0, 0, .null, []) :: (40, .iload 4, 0, 0, .null, []) :: (42, .invokevirtual 91, 45, 2, .ref 2, []) :: (45, .invokevirtual 37, 5, 2, .ref 0, []) :: (48, .iinc 4 (-1), 0, 0, .int (-1), []) :: (51, .goto (-31), 20, 0, .null, []) :: B0_awaitElements_54
def B0_awaitElements_0 : List am_I := (0, .aload_n 0, 0, 0, .null, []) :: (1, .getfield 33, 0, 1, .null, []) :: (4, .lload_n 2, 0, 0, .null, []) :: (5, .invokevirtual 85, 40, 1, .ref 2, []) :: (8, .aload_n 0, 0, 0, .null, []) :: (9, .getfield 33, 0, 1, .null, []) :: (12, .lload_n 2, 0, 0, .null, []) :: (13, .invokevirtual 88, 46, 1, .ref 2, []) :: (16, .iconst 1, 0, 0, .int 1, []) :: (17, .isub, 0, 0, .null, []) :: (18, .istore 4, 0, 0, .null, []) :: B0_awaitElements_20
set_option maxRecDepth 20000 in
theorem vB0_awaitElements_54 : am_vl 0 false none cX0_awaitElements B0_awaitElements_54 = true := am_vt (tl := []) 1 0 (by decide +kernel) rfl rfl rfl
set_option maxRecDepth 20000 in
theorem vB0_awaitElements_20 : am_vl 0 false none cX0_awaitElements B0_awaitElements_20 = true := am_vt (tl := B0_awaitElements_54) 16 54 (by decide +kernel) rfl rfl vB0_awaitElements_54
set_option maxRecDepth 20000 in
theorem vB0_awaitElements_0 : am_vl 0 false none cX0_awaitElements B0_awaitElements_0 = true := am_vt (tl := B0_awaitElements_20) 11 20 (by decide +kernel) rfl rfl vB0_awaitElements_20
def B1_init_62 : List am_I := (62, .return_, 0, 0, .null, []) :: []
def B1_init_40 : List am_I := (40, .iload_n 1, 0, 0, .null, []) :: (41, .aload_n 0, 0, 0, .null, []) :: (42, .getfield 18, 1, 2, .null, []) :: (45, .arraylength, 0, 0, .null, []) :: (46, .if_icmp .ge 16, 62, 0, .null, []) :: (49, .aload_n 0, 0, 0, .null, []) :: (50, .getfield 18, 1, 2, .null, []) :: (53, .iload_n 1, 0, 0, .null, []) :: (54, .iconst (-1), 0, 0, .int (-1), []) :: (55, .iastore, 0, 0, .null, []) :: (56, .iinc 1 1, 0, 0, .int 1, []) :: (59, .goto (-19), 40, 0, .null, []) :: B1_init_62
def B1_init_0 : List am_I := (0, .aload_n 0, 0, 0, .null, []) :: (1, .invokespecial 3, 0, 0, .null, []) :: (4, .aload_n 0, 0, 0, .null, []) :: (5, .bipush 24, 0, 0, .int 24, []) :: (7, .newarray .int, 0, 0, .null, []) :: (9, .putfield 9, 1, 0, .null, []) :: (12, .aload_n 0, 0, 0, .null, []) :: (13, .bipush 12, 0, 0, .int 12, []) :: (15, .newarray .int, 0, 0, .null, []) :: (17, .putfield 15, 1, 1, .null, []) :: (20, .aload_n 0, 0, 0, .null, []) :: (21, .bipush 96, 0, 0, .int 96, []) :: (23, .newarray .int, 0, 0, .null, []) :: (25, .putfield 18, 1, 2, .null, []) :: (28, .aload_n 0, 0, 0, .null, []) :: (29, .iconst 0, 0, 0, .int 0, []) :: (30, .putfield 21, 1, 3, .null, []) :: (33, .aload_n 0, 0, 0, .null, []) :: (34, .iconst 1, 0, 0, .int 1, []) :: (35, .putfield 25, 1, 4, .null, []) :: (38, .iconst 0, 0, 0, .int 0, []) :: (39, .istore_n 1, 0, 0, .null, []) :: B1_init_40
set_option maxRecDepth 20000 in
theorem vB1_init_62 : am_vl 1 true none cX1_init B1_init_62 = true := am_vt (tl := []) 1 0 (by decide +kernel) rfl rfl rfl
set_option maxRecDepth 20000 in
theorem vB1_init_40 : am_vl 1 true none cX1_init B1_init_40 = true := am_vt (tl := B1_init_62) 12 62 (by decide +kernel) rfl rfl vB1_init_62
set_option maxRecDepth 20000 in
theorem vB1_init_0 : am_vl 1 true none cX1_init B1_init_0 = true := am_vt (tl := B1_init_40) 22 40 (by decide +kernel) rfl rfl vB1_init_40
def B1_frameCount_0 : List am_I := (0, .aload_n 0, 0, 0, .null, []) :: (1, .getfield 25, 1, 4, .null, []) :: (4, .ireturn, 0, 0, .null, []) :: []
set_option maxRecDepth 20000 in
theorem vB1_frameCount_0 : am_vl 1 false (some .int) cX1_frameCount B1_frameCount_0 = true := am_vt (tl := []) 3 0 (by decide +kernel) rfl rfl rfl
def B1_lastFrame_0 : List am_I := (0, .aload_n 0, 0, 0, .null, []) :: (1, .getfield 25, 1, 4, .null, []) :: (4, .iconst 1, 0, 0, .int 1, []) :: (5, .isub, 0, 0, .null, []) :: (6, .ireturn, 0, 0, .null, []) :: []
set_option maxRecDepth 20000 in
theorem vB1_lastFrame_0 : am_vl 1 false (some .int) cX1_lastFrame B1_lastFrame_0 = true := am_vt (tl := []) 5 0 (by decide +kernel) rfl rfl rfl
def B1_addFrame_32 : List am_I := (32, .return_, 0, 0, .null, []) :: []
def B1_addFrame_0 : List am_I := (0, .aload_n 0, 0, 0, .null, []) :: (1, .getfield 25, 1, 4, .null, []) :: (4, .bipush 12, 0, 0, .int 12, []) :: (6, .if_icmp .ge 26, 32, 0, .null, []) :: (9, .aload_n 0, 0, 0, .null, []) :: (10, .getfield 15, 1, 1, .null, []) :: (13, .aload_n 0, 0, 0, .null, []) :: (14, .getfield 25, 1, 4, .null, []) :: (17, .aload_n 0, 0, 0, .null, []) :: (18, .getfield 21, 1, 3, .null, []) :: (21, .iastore, 0, 0, .null, []) :: (22, .aload_n 0, 0, 0, .null, []) :: (23, .dup, 0, 0, .null, []) :: (24, .getfield 25, 1, 4, .null, []) :: (27, .iconst 1, 0, 0, .int 1, []) :: (28, .iadd, 0, 0, .null, []) :: (29, .putfield 25, 1, 4, .null, []) :: B1_addFrame_32
set_option maxRecDepth 20000 in
theorem vB1_addFrame_32 : am_vl 1 false none cX1_addFrame B1_addFrame_32 = true := am_vt (tl := []) 1 0 (by decide +kernel) rfl rfl rfl
set_option maxRecDepth 20000 in
theorem vB1_addFrame_0 : am_vl 1 false none cX1_addFrame B1_addFrame_0 = true := am_vt (tl := B1_addFrame_32) 17 32 (by decide +kernel) rfl rfl vB1_addFrame_32
def B1_removeFrame_17 : List am_I := (17, .return_, 0, 0, .null, []) :: []
def B1_removeFrame_0 : List am_I := (0, .aload_n 0, 0, 0, .null, []) :: (1, .getfield 25, 1, 4, .null, []) :: (4, .ifCond .le 13, 17, 0, .null, []) :: (7, .aload_n 0, 0, 0, .null, []) :: (8, .dup, 0, 0, .null, []) :: (9, .getfield 25, 1, 4, .null, []) :: (12, .iconst 1, 0, 0, .int 1, []) :: (13, .isub, 0, 0, .null, []) :: (14, .putfield 25, 1, 4, .null, []) :: B1_removeFrame_17
set_option maxRecDepth 20000 in
theorem vB1_removeFrame_17 : am_vl 1 false none cX1_removeFrame B1_removeFrame_17 = true := am_vt (tl := []) 1 0 (by decide +kernel) rfl rfl rfl
set_option maxRecDepth 20000 in
theorem vB1_removeFrame_0 : am_vl 1 false none cX1_removeFrame B1_removeFrame_0 = true := am_vt (tl := B1_removeFrame_17) 9 17 (by decide +kernel) rfl rfl vB1_removeFrame_17
def B1_handCount_0 : List am_I := (0, .aload_n 0, 0, 0, .null, []) :: (1, .getfield 21, 1, 3, .null, []) :: (4, .ireturn, 0, 0, .null, []) :: []
set_option maxRecDepth 20000 in
theorem vB1_handCount_0 : am_vl 1 false (some .int) cX1_handCount B1_handCount_0 = true := am_vt (tl := []) 3 0 (by decide +kernel) rfl rfl rfl
def B1_handOfLast_27 : List am_I := (27, .ireturn, 0, 0, .null, []) :: []
def B1_handOfLast_26 : List am_I := (26, .iconst 0, 0, 0, .int 0, []) :: B1_handOfLast_27
def B1_handOfLast_0 : List am_I := (0, .aload_n 0, 0, 0, .null, []) :: (1, .getfield 25, 1, 4, .null, []) :: (4, .ifCond .le 22, 26, 0, .null, []) :: (7, .aload_n 0, 0, 0, .null, []) :: (8, .getfield 21, 1, 3, .null, []) :: (11, .aload_n 0, 0, 0, .null, []) :: (12, .getfield 15, 1, 1, .null, []) :: (15, .aload_n 0, 0, 0, .null, []) :: (16, .getfield 25, 1, 4, .null, []) :: (19, .iconst 1, 0, 0, .int 1, []) :: (20, .isub, 0, 0, .null, []) :: (21, .iaload, 0, 0, .null, []) :: (22, .isub, 0, 0, .null, []) :: (23, .goto 4, 27, 0, .null, []) :: B1_handOfLast_26
set_option maxRecDepth 20000 in
theorem vB1_handOfLast_27 : am_vl 1 false (some .int) cX1_handOfLast B1_handOfLast_27 = true := am_vt (tl := []) 1 0 (by decide +kernel) rfl rfl rfl
set_option maxRecDepth 20000 in
theorem vB1_handOfLast_26 : am_vl 1 false (some .int) cX1_handOfLast B1_handOfLast_26 = true := am_vt (tl := B1_handOfLast_27) 1 27 (by decide +kernel) rfl rfl vB1_handOfLast_27
set_option maxRecDepth 20000 in
theorem vB1_handOfLast_0 : am_vl 1 false (some .int) cX1_handOfLast B1_handOfLast_0 = true := am_vt (tl := B1_handOfLast_26) 14 26 (by decide +kernel) rfl rfl vB1_handOfLast_26
def B1_handHasRoomFor_16 : List am_I := (16, .ireturn, 1, 0, .null, []) :: []
def B1_handHasRoomFor_15 : List am_I := (15, .iconst 0, 0, 0, .int 0, []) :: B1_handHasRoomFor_16
def B1_handHasRoomFor_0 : List am_I := (0, .aload_n 0, 0, 0, .null, []) :: (1, .getfield 21, 1, 3, .null, []) :: (4, .iload_n 1, 0, 0, .null, []) :: (5, .iadd, 0, 0, .null, []) :: (6, .bipush 24, 0, 0, .int 24, []) :: (8, .if_icmp .gt 7, 15, 0, .null, []) :: (11, .iconst 1, 0, 0, .int 1, []) :: (12, .goto 4, 16, 0, .null, []) :: B1_handHasRoomFor_15
set_option maxRecDepth 20000 in
theorem vB1_handHasRoomFor_16 : am_vl 1 false (some .boolean) cX1_handHasRoomFor B1_handHasRoomFor_16 = true := am_vt (tl := []) 1 0 (by decide +kernel) rfl rfl rfl
set_option maxRecDepth 20000 in
theorem vB1_handHasRoomFor_15 : am_vl 1 false (some .boolean) cX1_handHasRoomFor B1_handHasRoomFor_15 = true := am_vt (tl := B1_handHasRoomFor_16) 1 16 (by decide +kernel) rfl rfl vB1_handHasRoomFor_16
set_option maxRecDepth 20000 in
theorem vB1_handHasRoomFor_0 : am_vl 1 false (some .boolean) cX1_handHasRoomFor B1_handHasRoomFor_0 = true := am_vt (tl := B1_handHasRoomFor_15) 8 15 (by decide +kernel) rfl rfl vB1_handHasRoomFor_15
def B1_handShape_22 : List am_I := (22, .ireturn, 0, 0, .null, []) :: []
def B1_handShape_21 : List am_I := (21, .iconst (-1), 0, 0, .int (-1), []) :: B1_handShape_22
def B1_handShape_0 : List am_I := (0, .iload_n 1, 0, 0, .null, []) :: (1, .ifCond .lt 20, 21, 0, .null, []) :: (4, .iload_n 1, 0, 0, .null, []) :: (5, .aload_n 0, 0, 0, .null, []) :: (6, .getfield 21, 1, 3, .null, []) :: (9, .if_icmp .ge 12, 21, 0, .null, []) :: (12, .aload_n 0, 0, 0, .null, []) :: (13, .getfield 9, 1, 0, .null, []) :: (16, .iload_n 1, 0, 0, .null, []) :: (17, .iaload, 0, 0, .null, []) :: (18, .goto 4, 22, 0, .null, []) :: B1_handShape_21
set_option maxRecDepth 20000 in
theorem vB1_handShape_22 : am_vl 1 false (some .int) cX1_handShape B1_handShape_22 = true := am_vt (tl := []) 1 0 (by decide +kernel) rfl rfl rfl
set_option maxRecDepth 20000 in
theorem vB1_handShape_21 : am_vl 1 false (some .int) cX1_handShape B1_handShape_21 = true := am_vt (tl := B1_handShape_22) 1 22 (by decide +kernel) rfl rfl vB1_handShape_22
set_option maxRecDepth 20000 in
theorem vB1_handShape_0 : am_vl 1 false (some .int) cX1_handShape B1_handShape_0 = true := am_vt (tl := B1_handShape_21) 11 21 (by decide +kernel) rfl rfl vB1_handShape_21
def B1_topShape_21 : List am_I := (21, .ireturn, 0, 0, .null, []) :: []
def B1_topShape_20 : List am_I := (20, .iconst (-1), 0, 0, .int (-1), []) :: B1_topShape_21
def B1_topShape_0 : List am_I := (0, .aload_n 0, 0, 0, .null, []) :: (1, .invokevirtual 28, 17, 0, .ref 1, []) :: (4, .ifCond .le 16, 20, 0, .null, []) :: (7, .aload_n 0, 0, 0, .null, []) :: (8, .aload_n 0, 0, 0, .null, []) :: (9, .getfield 21, 1, 3, .null, []) :: (12, .iconst 1, 0, 0, .int 1, []) :: (13, .isub, 0, 0, .null, []) :: (14, .invokevirtual 32, 19, 1, .ref 1, []) :: (17, .goto 4, 21, 0, .null, []) :: B1_topShape_20
set_option maxRecDepth 20000 in
theorem vB1_topShape_21 : am_vl 1 false (some .int) cX1_topShape B1_topShape_21 = true := am_vt (tl := []) 1 0 (by decide +kernel) rfl rfl rfl
set_option maxRecDepth 20000 in
theorem vB1_topShape_20 : am_vl 1 false (some .int) cX1_topShape B1_topShape_20 = true := am_vt (tl := B1_topShape_21) 1 21 (by decide +kernel) rfl rfl vB1_topShape_21
set_option maxRecDepth 20000 in
theorem vB1_topShape_0 : am_vl 1 false (some .int) cX1_topShape B1_topShape_0 = true := am_vt (tl := B1_topShape_20) 10 20 (by decide +kernel) rfl rfl vB1_topShape_20
def B1_handEndsWith_42 : List am_I := (42, .iconst 1, 0, 0, .int 1, []) :: (43, .ireturn, 1, 0, .null, []) :: []
def B1_handEndsWith_36 : List am_I := (36, .iinc 3 1, 0, 0, .int 1, []) :: (39, .goto (-22), 17, 0, .null, []) :: B1_handEndsWith_42
def B1_handEndsWith_17 : List am_I := (17, .iload_n 3, 0, 0, .null, []) :: (18, .aload_n 0, 0, 0, .null, []) :: (19, .getfield 21, 1, 3, .null, []) :: (22, .if_icmp .ge 20, 42, 0, .null, []) :: (25, .aload_n 0, 0, 0, .null, []) :: (26, .iload_n 3, 0, 0, .null, []) :: (27, .invokevirtual 32, 19, 1, .ref 1, []) :: (30, .iload_n 2, 0, 0, .null, []) :: (31, .if_icmp .eq 5, 36, 0, .null, []) :: (34, .iconst 0, 0, 0, .int 0, []) :: (35, .ireturn, 1, 0, .null, []) :: B1_handEndsWith_36
def B1_handEndsWith_10 : List am_I := (10, .aload_n 0, 0, 0, .null, []) :: (11, .getfield 21, 1, 3, .null, []) :: (14, .iload_n 1, 0, 0, .null, []) :: (15, .isub, 0, 0, .null, []) :: (16, .istore_n 3, 0, 0, .null, []) :: B1_handEndsWith_17
def B1_handEndsWith_0 : List am_I := (0, .iload_n 1, 0, 0, .null, []) :: (1, .aload_n 0, 0, 0, .null, []) :: (2, .invokevirtual 28, 17, 0, .ref 1, []) :: (5, .if_icmp .le 5, 10, 0, .null, []) :: (8, .iconst 0, 0, 0, .int 0, []) :: (9, .ireturn, 1, 0, .null, []) :: B1_handEndsWith_10
set_option maxRecDepth 20000 in
theorem vB1_handEndsWith_42 : am_vl 1 false (some .boolean) cX1_handEndsWith B1_handEndsWith_42 = true := am_vt (tl := []) 2 0 (by decide +kernel) rfl rfl rfl
set_option maxRecDepth 20000 in
theorem vB1_handEndsWith_36 : am_vl 1 false (some .boolean) cX1_handEndsWith B1_handEndsWith_36 = true := am_vt (tl := B1_handEndsWith_42) 2 42 (by decide +kernel) rfl rfl vB1_handEndsWith_42
set_option maxRecDepth 20000 in
theorem vB1_handEndsWith_17 : am_vl 1 false (some .boolean) cX1_handEndsWith B1_handEndsWith_17 = true := am_vt (tl := B1_handEndsWith_36) 11 36 (by decide +kernel) rfl rfl vB1_handEndsWith_36
set_option maxRecDepth 20000 in
theorem vB1_handEndsWith_10 : am_vl 1 false (some .boolean) cX1_handEndsWith B1_handEndsWith_10 = true := am_vt (tl := B1_handEndsWith_17) 5 17 (by decide +kernel) rfl rfl vB1_handEndsWith_17
set_option maxRecDepth 20000 in
theorem vB1_handEndsWith_0 : am_vl 1 false (some .boolean) cX1_handEndsWith B1_handEndsWith_0 = true := am_vt (tl := B1_handEndsWith_10) 6 10 (by decide +kernel) rfl rfl vB1_handEndsWith_10
def B1_layOn_29 : List am_I := (29, .return_, 0, 0, .null, []) :: []
def B1_layOn_0 : List am_I := (0, .aload_n 0, 0, 0, .null, []) :: (1, .getfield 21, 1, 3, .null, []) :: (4, .bipush 24, 0, 0, .int 24, []) :: (6, .if_icmp .ge 23, 29, 0, .null, []) :: (9, .aload_n 0, 0, 0, .null, []) :: (10, .getfield 9, 1, 0, .null, []) :: (13, .aload_n 0, 0, 0, .null, []) :: (14, .getfield 21, 1, 3, .null, []) :: (17, .iload_n 1, 0, 0, .null, []) :: (18, .iastore, 0, 0, .null, []) :: (19, .aload_n 0, 0, 0, .null, []) :: (20, .dup, 0, 0, .null, []) :: (21, .getfield 21, 1, 3, .null, []) :: (24, .iconst 1, 0, 0, .int 1, []) :: (25, .iadd, 0, 0, .null, []) :: (26, .putfield 21, 1, 3, .null, []) :: B1_layOn_29
set_option maxRecDepth 20000 in
theorem vB1_layOn_29 : am_vl 1 false none cX1_layOn B1_layOn_29 = true := am_vt (tl := []) 1 0 (by decide +kernel) rfl rfl rfl
set_option maxRecDepth 20000 in
theorem vB1_layOn_0 : am_vl 1 false none cX1_layOn B1_layOn_0 = true := am_vt (tl := B1_layOn_29) 16 29 (by decide +kernel) rfl rfl vB1_layOn_29
def B1_takeOff_22 : List am_I := (22, .return_, 0, 0, .null, []) :: []
def B1_takeOff_0 : List am_I := (0, .iload_n 1, 0, 0, .null, []) :: (1, .ifCond .lt 21, 22, 0, .null, []) :: (4, .iload_n 1, 0, 0, .null, []) :: (5, .aload_n 0, 0, 0, .null, []) :: (6, .getfield 21, 1, 3, .null, []) :: (9, .if_icmp .gt 13, 22, 0, .null, []) :: (12, .aload_n 0, 0, 0, .null, []) :: (13, .dup, 0, 0, .null, []) :: (14, .getfield 21, 1, 3, .null, []) :: (17, .iload_n 1, 0, 0, .null, []) :: (18, .isub, 0, 0, .null, []) :: (19, .putfield 21, 1, 3, .null, []) :: B1_takeOff_22
set_option maxRecDepth 20000 in
theorem vB1_takeOff_22 : am_vl 1 false none cX1_takeOff B1_takeOff_22 = true := am_vt (tl := []) 1 0 (by decide +kernel) rfl rfl rfl
set_option maxRecDepth 20000 in
theorem vB1_takeOff_0 : am_vl 1 false none cX1_takeOff B1_takeOff_0 = true := am_vt (tl := B1_takeOff_22) 12 22 (by decide +kernel) rfl rfl vB1_takeOff_22
def B1_slotShape_23 : List am_I := (23, .ireturn, 0, 0, .null, []) :: []
def B1_slotShape_22 : List am_I := (22, .iconst (-1), 0, 0, .int (-1), []) :: B1_slotShape_23
def B1_slotShape_0 : List am_I := (0, .iload_n 1, 0, 0, .null, []) :: (1, .iload_n 2, 0, 0, .null, []) :: (2, .invokestatic 36, 26, 2, .int 0, []) :: (5, .ifCond .eq 17, 22, 0, .null, []) :: (8, .aload_n 0, 0, 0, .null, []) :: (9, .getfield 18, 1, 2, .null, []) :: (12, .iload_n 1, 0, 0, .null, []) :: (13, .bipush 8, 0, 0, .int 8, []) :: (15, .imul, 0, 0, .null, []) :: (16, .iload_n 2, 0, 0, .null, []) :: (17, .iadd, 0, 0, .null, []) :: (18, .iaload, 0, 0, .null, []) :: (19, .goto 4, 23, 0, .null, []) :: B1_slotShape_22
set_option maxRecDepth 20000 in
theorem vB1_slotShape_23 : am_vl 1 false (some .int) cX1_slotShape B1_slotShape_23 = true := am_vt (tl := []) 1 0 (by decide +kernel) rfl rfl rfl
set_option maxRecDepth 20000 in
theorem vB1_slotShape_22 : am_vl 1 false (some .int) cX1_slotShape B1_slotShape_22 = true := am_vt (tl := B1_slotShape_23) 1 23 (by decide +kernel) rfl rfl vB1_slotShape_23
set_option maxRecDepth 20000 in
theorem vB1_slotShape_0 : am_vl 1 false (some .int) cX1_slotShape B1_slotShape_0 = true := am_vt (tl := B1_slotShape_22) 13 22 (by decide +kernel) rfl rfl vB1_slotShape_22
def B1_fillSlot_20 : List am_I := (20, .return_, 0, 0, .null, []) :: []
def B1_fillSlot_0 : List am_I := (0, .iload_n 1, 0, 0, .null, []) :: (1, .iload_n 2, 0, 0, .null, []) :: (2, .invokestatic 36, 26, 2, .int 0, []) :: (5, .ifCond .eq 15, 20, 0, .null, []) :: (8, .aload_n 0, 0, 0, .null, []) :: (9, .getfield 18, 1, 2, .null, []) :: (12, .iload_n 1, 0, 0, .null, []) :: (13, .bipush 8, 0, 0, .int 8, []) :: (15, .imul, 0, 0, .null, []) :: (16, .iload_n 2, 0, 0, .null, []) :: (17, .iadd, 0, 0, .null, []) :: (18, .iload_n 3, 0, 0, .null, []) :: (19, .iastore, 0, 0, .null, []) :: B1_fillSlot_20
set_option maxRecDepth 20000 in
theorem vB1_fillSlot_20 : am_vl 1 false none cX1_fillSlot B1_fillSlot_20 = true := am_vt (tl := []) 1 0 (by decide +kernel) rfl rfl rfl
set_option maxRecDepth 20000 in
theorem vB1_fillSlot_0 : am_vl 1 false none cX1_fillSlot B1_fillSlot_0 = true := am_vt (tl := B1_fillSlot_20) 13 20 (by decide +kernel) rfl rfl vB1_fillSlot_20
def B1_hasSlot_22 : List am_I := (22, .ireturn, 1, 0, .null, []) :: []
def B1_hasSlot_21 : List am_I := (21, .iconst 0, 0, 0, .int 0, []) :: B1_hasSlot_22
def B1_hasSlot_0 : List am_I := (0, .iload_n 0, 0, 0, .null, []) :: (1, .ifCond .lt 20, 21, 0, .null, []) :: (4, .iload_n 0, 0, 0, .null, []) :: (5, .bipush 12, 0, 0, .int 12, []) :: (7, .if_icmp .ge 14, 21, 0, .null, []) :: (10, .iload_n 1, 0, 0, .null, []) :: (11, .invokestatic 40, 96, 1, .int 1, []) :: (14, .ifCond .eq 7, 21, 0, .null, []) :: (17, .iconst 1, 0, 0, .int 1, []) :: (18, .goto 4, 22, 0, .null, []) :: B1_hasSlot_21
set_option maxRecDepth 20000 in
theorem vB1_hasSlot_22 : am_vl 1 false (some .boolean) cX1_hasSlot B1_hasSlot_22 = true := am_vt (tl := []) 1 0 (by decide +kernel) rfl rfl rfl
set_option maxRecDepth 20000 in
theorem vB1_hasSlot_21 : am_vl 1 false (some .boolean) cX1_hasSlot B1_hasSlot_21 = true := am_vt (tl := B1_hasSlot_22) 1 22 (by decide +kernel) rfl rfl vB1_hasSlot_22
set_option maxRecDepth 20000 in
theorem vB1_hasSlot_0 : am_vl 1 false (some .boolean) cX1_hasSlot B1_hasSlot_0 = true := am_vt (tl := B1_hasSlot_21) 10 21 (by decide +kernel) rfl rfl vB1_hasSlot_21
def B1_filledSlots_32 : List am_I := (32, .iload_n 1, 0, 0, .null, []) :: (33, .ireturn, 0, 0, .null, []) :: []
def B1_filledSlots_26 : List am_I := (26, .iinc 2 1, 0, 0, .int 1, []) :: (29, .goto (-25), 4, 0, .null, []) :: B1_filledSlots_32
def B1_filledSlots_4 : List am_I := (4, .iload_n 2, 0, 0, .null, []) :: (5, .aload_n 0, 0, 0, .null, []) :: (6, .getfield 18, 1, 2, .null, []) :: (9, .arraylength, 0, 0, .null, []) :: (10, .if_icmp .ge 22, 32, 0, .null, []) :: (13, .aload_n 0, 0, 0, .null, []) :: (14, .getfield 18, 1, 2, .null, []) :: (17, .iload_n 2, 0, 0, .null, []) :: (18, .iaload, 0, 0, .null, []) :: (19, .iconst (-1), 0, 0, .int (-1), []) :: (20, .if_icmp .eq 6, 26, 0, .null, []) :: (23, .iinc 1 1, 0, 0, .int 1, []) :: B1_filledSlots_26
def B1_filledSlots_0 : List am_I := (0, .iconst 0, 0, 0, .int 0, []) :: (1, .istore_n 1, 0, 0, .null, []) :: (2, .iconst 0, 0, 0, .int 0, []) :: (3, .istore_n 2, 0, 0, .null, []) :: B1_filledSlots_4
set_option maxRecDepth 20000 in
theorem vB1_filledSlots_32 : am_vl 1 false (some .int) cX1_filledSlots B1_filledSlots_32 = true := am_vt (tl := []) 2 0 (by decide +kernel) rfl rfl rfl
set_option maxRecDepth 20000 in
theorem vB1_filledSlots_26 : am_vl 1 false (some .int) cX1_filledSlots B1_filledSlots_26 = true := am_vt (tl := B1_filledSlots_32) 2 32 (by decide +kernel) rfl rfl vB1_filledSlots_32
set_option maxRecDepth 20000 in
theorem vB1_filledSlots_4 : am_vl 1 false (some .int) cX1_filledSlots B1_filledSlots_4 = true := am_vt (tl := B1_filledSlots_26) 12 26 (by decide +kernel) rfl rfl vB1_filledSlots_26
set_option maxRecDepth 20000 in
theorem vB1_filledSlots_0 : am_vl 1 false (some .int) cX1_filledSlots B1_filledSlots_0 = true := am_vt (tl := B1_filledSlots_4) 4 4 (by decide +kernel) rfl rfl vB1_filledSlots_4
def B2_init_47 : List am_I := (47, .return_, 0, 0, .null, []) :: []
def B2_init_0 : List am_I := (0, .aload_n 0, 0, 0, .null, []) :: (1, .invokespecial 3, 0, 0, .null, []) :: (4, .aload_n 0, 0, 0, .null, []) :: (5, .sipush 2720, 0, 0, .int 2720, []) :: (8, .newarray .long, 0, 0, .null, []) :: (10, .putfield 9, 2, 0, .null, []) :: (13, .aload_n 0, 0, 0, .null, []) :: (14, .bipush 60, 0, 0, .int 60, []) :: (16, .newarray .boolean, 0, 0, .null, []) :: (18, .putfield 15, 2, 1, .null, []) :: (21, .aload_n 0, 0, 0, .null, []) :: (22, .bipush 20, 0, 0, .int 20, []) :: (24, .newarray .boolean, 0, 0, .null, []) :: (26, .putfield 19, 2, 2, .null, []) :: (29, .aload_n 0, 0, 0, .null, []) :: (30, .bipush 20, 0, 0, .int 20, []) :: (32, .newarray .int, 0, 0, .null, []) :: (34, .putfield 22, 2, 3, .null, []) :: (37, .aload_n 0, 0, 0, .null, []) :: (38, .iconst 0, 0, 0, .int 0, []) :: (39, .putfield 26, 2, 4, .null, []) :: (42, .aload_n 0, 0, 0, .null, []) :: (43, .iconst 0, 0, 0, .int 0, []) :: (44, .putfield 30, 2, 5, .null, []) :: B2_init_47
set_option maxRecDepth 20000 in
theorem vB2_init_47 : am_vl 2 true none cX2_init B2_init_47 = true := am_vt (tl := []) 1 0 (by decide +kernel) rfl rfl rfl
set_option maxRecDepth 20000 in
theorem vB2_init_0 : am_vl 2 true none cX2_init B2_init_0 = true := am_vt (tl := B2_init_47) 24 47 (by decide +kernel) rfl rfl vB2_init_47
def B2_read_18 : List am_I := (18, .lreturn, 0, 0, .null, []) :: []
def B2_read_17 : List am_I := (17, .lconst 0, 0, 0, .long 0, []) :: B2_read_18
def B2_read_0 : List am_I := (0, .iload_n 1, 0, 0, .null, []) :: (1, .iconst 1, 0, 0, .int 1, []) :: (2, .invokestatic 33, 33, 2, .int 0, []) :: (5, .ifCond .eq 12, 17, 0, .null, []) :: (8, .aload_n 0, 0, 0, .null, []) :: (9, .getfield 9, 2, 0, .null, []) :: (12, .iload_n 1, 0, 0, .null, []) :: (13, .laload, 0, 0, .null, []) :: (14, .goto 4, 18, 0, .null, []) :: B2_read_17
set_option maxRecDepth 20000 in
theorem vB2_read_18 : am_vl 2 false (some .long) cX2_read B2_read_18 = true := am_vt (tl := []) 1 0 (by decide +kernel) rfl rfl rfl
set_option maxRecDepth 20000 in
theorem vB2_read_17 : am_vl 2 false (some .long) cX2_read B2_read_17 = true := am_vt (tl := B2_read_18) 1 18 (by decide +kernel) rfl rfl vB2_read_18
set_option maxRecDepth 20000 in
theorem vB2_read_0 : am_vl 2 false (some .long) cX2_read B2_read_0 = true := am_vt (tl := B2_read_17) 9 17 (by decide +kernel) rfl rfl vB2_read_17
def B2_write_15 : List am_I := (15, .return_, 0, 0, .null, []) :: []
def B2_write_0 : List am_I := (0, .iload_n 1, 0, 0, .null, []) :: (1, .iconst 1, 0, 0, .int 1, []) :: (2, .invokestatic 33, 33, 2, .int 0, []) :: (5, .ifCond .eq 10, 15, 0, .null, []) :: (8, .aload_n 0, 0, 0, .null, []) :: (9, .getfield 9, 2, 0, .null, []) :: (12, .iload_n 1, 0, 0, .null, []) :: (13, .lload_n 2, 0, 0, .null, []) :: (14, .lastore, 0, 0, .null, []) :: B2_write_15
set_option maxRecDepth 20000 in
theorem vB2_write_15 : am_vl 2 false none cX2_write B2_write_15 = true := am_vt (tl := []) 1 0 (by decide +kernel) rfl rfl rfl
set_option maxRecDepth 20000 in
theorem vB2_write_0 : am_vl 2 false none cX2_write B2_write_0 = true := am_vt (tl := B2_write_15) 9 15 (by decide +kernel) rfl rfl vB2_write_15
def B2_moveCells_30 : List am_I := (30, .return_, 0, 0, .null, []) :: []
def B2_moveCells_0 : List am_I := (0, .iload_n 1, 0, 0, .null, []) :: (1, .iload_n 3, 0, 0, .null, []) :: (2, .invokestatic 33, 33, 2, .int 0, []) :: (5, .ifCond .eq 25, 30, 0, .null, []) :: (8, .iload_n 2, 0, 0, .null, []) :: (9, .iload_n 3, 0, 0, .null, []) :: (10, .invokestatic 33, 33, 2, .int 0, []) :: (13, .ifCond .eq 17, 30, 0, .null, []) :: (16, .aload_n 0, 0, 0, .null, []) :: (17, .getfield 9, 2, 0, .null, []) :: (20, .iload_n 1, 0, 0, .null, []) :: (21, .aload_n 0, 0, 0, .null, []) :: (22, .getfield 9, 2, 0, .null, []) :: (25, .iload_n 2, 0, 0, .null, []) :: (26, .iload_n 3, 0, 0, .null, []) :: (27, .invokestatic 37, 0, 0, .long 0, []) :: B2_moveCells_30
set_option maxRecDepth 20000 in
theorem vB2_moveCells_30 : am_vl 2 false none cX2_moveCells B2_moveCells_30 = true := am_vt (tl := []) 1 0 (by decide +kernel) rfl rfl rfl
set_option maxRecDepth 20000 in
theorem vB2_moveCells_0 : am_vl 2 false none cX2_moveCells B2_moveCells_0 = true := am_vt (tl := B2_moveCells_30) 16 30 (by decide +kernel) rfl rfl vB2_moveCells_30
def B2_swapCells_78 : List am_I := (78, .return_, 0, 0, .null, []) :: []
def B2_swapCells_65 : List am_I := (65, .iload_n 2, 0, 0, .null, []) :: (66, .iload 4, 0, 0, .null, []) :: (68, .iadd, 0, 0, .null, []) :: (69, .lload 5, 0, 0, .null, []) :: (71, .lastore, 0, 0, .null, []) :: (72, .iinc 4 1, 0, 0, .int 1, []) :: (75, .goto (-49), 26, 0, .null, []) :: B2_swapCells_78
def B2_swapCells_26 : List am_I := (26, .iload 4, 0, 0, .null, []) :: (28, .iload_n 3, 0, 0, .null, []) :: (29, .if_icmp .ge 49, 78, 0, .null, []) :: (32, .aload_n 0, 0, 0, .null, []) :: (33, .getfield 9, 2, 0, .null, []) :: (36, .iload_n 1, 0, 0, .null, []) :: (37, .iload 4, 0, 0, .null, []) :: (39, .iadd, 0, 0, .null, []) :: (40, .laload, 0, 0, .null, []) :: (41, .lstore 5, 0, 0, .null, []) :: (43, .aload_n 0, 0, 0, .null, []) :: (44, .getfield 9, 2, 0, .null, []) :: (47, .iload_n 1, 0, 0, .null, []) :: (48, .iload 4, 0, 0, .null, []) :: (50, .iadd, 0, 0, .null, []) :: (51, .aload_n 0, 0, 0, .null, []) :: (52, .getfield 9, 2, 0, .null, []) :: (55, .iload_n 2, 0, 0, .null, []) :: (56, .iload 4, 0, 0, .null, []) :: (58, .iadd, 0, 0, .null, []) :: (59, .laload, 0, 0, .null, []) :: (60, .lastore, 0, 0, .null, []) :: (61, .aload_n 0, 0, 0, .null, []) :: (62, .getfield 9, 2, 0, .null, []) :: B2_swapCells_65
def B2_swapCells_23 : List am_I := (23, .iconst 0, 0, 0, .int 0, []) :: (24, .istore 4, 0, 0, .null, []) :: B2_swapCells_26
def B2_swapCells_22 : List am_I := (22, .return_, 0, 0, .null, []) :: B2_swapCells_23
def B2_swapCells_0 : List am_I := (0, .iload_n 3, 0, 0, .null, []) :: (1, .bipush 8, 0, 0, .int 8, []) :: (3, .if_icmp .gt 19, 22, 0, .null, []) :: (6, .iload_n 1, 0, 0, .null, []) :: (7, .iload_n 3, 0, 0, .null, []) :: (8, .invokestatic 33, 33, 2, .int 0, []) :: (11, .ifCond .eq 11, 22, 0, .null, []) :: (14, .iload_n 2, 0, 0, .null, []) :: (15, .iload_n 3, 0, 0, .null, []) :: (16, .invokestatic 33, 33, 2, .int 0, []) :: (19, .ifCond .ne 4, 23, 0, .null, []) :: B2_swapCells_22
set_option maxRecDepth 20000 in
theorem vB2_swapCells_78 : am_vl 2 false none cX2_swapCells B2_swapCells_78 = true := am_vt (tl := []) 1 0 (by decide +kernel) rfl rfl rfl
set_option maxRecDepth 20000 in
theorem vB2_swapCells_65 : am_vl 2 false none cX2_swapCells B2_swapCells_65 = true := am_vt (tl := B2_swapCells_78) 7 78 (by decide +kernel) rfl rfl vB2_swapCells_78
set_option maxRecDepth 20000 in
theorem vB2_swapCells_26 : am_vl 2 false none cX2_swapCells B2_swapCells_26 = true := am_vt (tl := B2_swapCells_65) 24 65 (by decide +kernel) rfl rfl vB2_swapCells_65
set_option maxRecDepth 20000 in
theorem vB2_swapCells_23 : am_vl 2 false none cX2_swapCells B2_swapCells_23 = true := am_vt (tl := B2_swapCells_26) 2 26 (by decide +kernel) rfl rfl vB2_swapCells_26
set_option maxRecDepth 20000 in
theorem vB2_swapCells_22 : am_vl 2 false none cX2_swapCells B2_swapCells_22 = true := am_vt (tl := B2_swapCells_23) 1 23 (by decide +kernel) rfl rfl vB2_swapCells_23
set_option maxRecDepth 20000 in
theorem vB2_swapCells_0 : am_vl 2 false none cX2_swapCells B2_swapCells_0 = true := am_vt (tl := B2_swapCells_22) 11 22 (by decide +kernel) rfl rfl vB2_swapCells_22
def B2_areCells_29 : List am_I := (29, .ireturn, 1, 0, .null, []) :: []
def B2_areCells_28 : List am_I := (28, .iconst 0, 0, 0, .int 0, []) :: B2_areCells_29
def B2_areCells_0 : List am_I := (0, .iload_n 0, 0, 0, .null, []) :: (1, .ifCond .lt 27, 28, 0, .null, []) :: (4, .iload_n 1, 0, 0, .null, []) :: (5, .ifCond .lt 23, 28, 0, .null, []) :: (8, .iload_n 1, 0, 0, .null, []) :: (9, .sipush 2720, 0, 0, .int 2720, []) :: (12, .if_icmp .gt 16, 28, 0, .null, []) :: (15, .iload_n 0, 0, 0, .null, []) :: (16, .sipush 2720, 0, 0, .int 2720, []) :: (19, .iload_n 1, 0, 0, .null, []) :: (20, .isub, 0, 0, .null, []) :: (21, .if_icmp .gt 7, 28, 0, .null, []) :: (24, .iconst 1, 0, 0, .int 1, []) :: (25, .goto 4, 29, 0, .null, []) :: B2_areCells_28
set_option maxRecDepth 20000 in
theorem vB2_areCells_29 : am_vl 2 false (some .boolean) cX2_areCells B2_areCells_29 = true := am_vt (tl := []) 1 0 (by decide +kernel) rfl rfl rfl
set_option maxRecDepth 20000 in
theorem vB2_areCells_28 : am_vl 2 false (some .boolean) cX2_areCells B2_areCells_28 = true := am_vt (tl := B2_areCells_29) 1 29 (by decide +kernel) rfl rfl vB2_areCells_29
set_option maxRecDepth 20000 in
theorem vB2_areCells_0 : am_vl 2 false (some .boolean) cX2_areCells B2_areCells_0 = true := am_vt (tl := B2_areCells_28) 14 28 (by decide +kernel) rfl rfl vB2_areCells_28
def B2_boxesThere_0 : List am_I := (0, .aload_n 0, 0, 0, .null, []) :: (1, .getfield 26, 2, 4, .null, []) :: (4, .ireturn, 0, 0, .null, []) :: []
set_option maxRecDepth 20000 in
theorem vB2_boxesThere_0 : am_vl 2 false (some .int) cX2_boxesThere B2_boxesThere_0 = true := am_vt (tl := []) 3 0 (by decide +kernel) rfl rfl rfl
def B2_rowsThere_0 : List am_I := (0, .aload_n 0, 0, 0, .null, []) :: (1, .getfield 30, 2, 5, .null, []) :: (4, .ireturn, 0, 0, .null, []) :: []
set_option maxRecDepth 20000 in
theorem vB2_rowsThere_0 : am_vl 2 false (some .int) cX2_rowsThere B2_rowsThere_0 = true := am_vt (tl := []) 3 0 (by decide +kernel) rfl rfl rfl
def B2_takeBox_30 : List am_I := (30, .iload_n 1, 0, 0, .null, []) :: (31, .ireturn, 0, 0, .null, []) :: []
def B2_takeBox_0 : List am_I := (0, .aload_n 0, 0, 0, .null, []) :: (1, .getfield 15, 2, 1, .null, []) :: (4, .invokestatic 43, 38, 1, .int 0, []) :: (7, .istore_n 1, 0, 0, .null, []) :: (8, .iload_n 1, 0, 0, .null, []) :: (9, .iconst (-1), 0, 0, .int (-1), []) :: (10, .if_icmp .eq 20, 30, 0, .null, []) :: (13, .aload_n 0, 0, 0, .null, []) :: (14, .getfield 15, 2, 1, .null, []) :: (17, .iload_n 1, 0, 0, .null, []) :: (18, .iconst 1, 0, 0, .int 1, []) :: (19, .bastore, 0, 0, .null, []) :: (20, .aload_n 0, 0, 0, .null, []) :: (21, .dup, 0, 0, .null, []) :: (22, .getfield 26, 2, 4, .null, []) :: (25, .iconst 1, 0, 0, .int 1, []) :: (26, .iadd, 0, 0, .null, []) :: (27, .putfield 26, 2, 4, .null, []) :: B2_takeBox_30
set_option maxRecDepth 20000 in
theorem vB2_takeBox_30 : am_vl 2 false (some .int) cX2_takeBox B2_takeBox_30 = true := am_vt (tl := []) 2 0 (by decide +kernel) rfl rfl rfl
set_option maxRecDepth 20000 in
theorem vB2_takeBox_0 : am_vl 2 false (some .int) cX2_takeBox B2_takeBox_0 = true := am_vt (tl := B2_takeBox_30) 18 30 (by decide +kernel) rfl rfl vB2_takeBox_30
def B2_takeRow_37 : List am_I := (37, .iload_n 2, 0, 0, .null, []) :: (38, .ireturn, 0, 0, .null, []) :: []
def B2_takeRow_0 : List am_I := (0, .aload_n 0, 0, 0, .null, []) :: (1, .getfield 19, 2, 2, .null, []) :: (4, .invokestatic 43, 38, 1, .int 0, []) :: (7, .istore_n 2, 0, 0, .null, []) :: (8, .iload_n 2, 0, 0, .null, []) :: (9, .iconst (-1), 0, 0, .int (-1), []) :: (10, .if_icmp .eq 27, 37, 0, .null, []) :: (13, .aload_n 0, 0, 0, .null, []) :: (14, .getfield 19, 2, 2, .null, []) :: (17, .iload_n 2, 0, 0, .null, []) :: (18, .iconst 1, 0, 0, .int 1, []) :: (19, .bastore, 0, 0, .null, []) :: (20, .aload_n 0, 0, 0, .null, []) :: (21, .getfield 22, 2, 3, .null, []) :: (24, .iload_n 2, 0, 0, .null, []) :: (25, .iload_n 1, 0, 0, .null, []) :: (26, .iastore, 0, 0, .null, []) :: (27, .aload_n 0, 0, 0, .null, []) :: (28, .dup, 0, 0, .null, []) :: (29, .getfield 30, 2, 5, .null, []) :: (32, .iconst 1, 0, 0, .int 1, []) :: (33, .iadd, 0, 0, .null, []) :: (34, .putfield 30, 2, 5, .null, []) :: B2_takeRow_37
set_option maxRecDepth 20000 in
theorem vB2_takeRow_37 : am_vl 2 false (some .int) cX2_takeRow B2_takeRow_37 = true := am_vt (tl := []) 2 0 (by decide +kernel) rfl rfl rfl
set_option maxRecDepth 20000 in
theorem vB2_takeRow_0 : am_vl 2 false (some .int) cX2_takeRow B2_takeRow_0 = true := am_vt (tl := B2_takeRow_37) 23 37 (by decide +kernel) rfl rfl vB2_takeRow_37
def B2_firstFree_22 : List am_I := (22, .iconst (-1), 0, 0, .int (-1), []) :: (23, .ireturn, 0, 0, .null, []) :: []
def B2_firstFree_16 : List am_I := (16, .iinc 1 1, 0, 0, .int 1, []) :: (19, .goto (-17), 2, 0, .null, []) :: B2_firstFree_22
def B2_firstFree_2 : List am_I := (2, .iload_n 1, 0, 0, .null, []) :: (3, .aload_n 0, 0, 0, .null, []) :: (4, .arraylength, 0, 0, .null, []) :: (5, .if_icmp .ge 17, 22, 0, .null, []) :: (8, .aload_n 0, 0, 0, .null, []) :: (9, .iload_n 1, 0, 0, .null, []) :: (10, .baload, 0, 0, .null, []) :: (11, .ifCond .ne 5, 16, 0, .null, []) :: (14, .iload_n 1, 0, 0, .null, []) :: (15, .ireturn, 0, 0, .null, []) :: B2_firstFree_16
def B2_firstFree_0 : List am_I := (0, .iconst 0, 0, 0, .int 0, []) :: (1, .istore_n 1, 0, 0, .null, []) :: B2_firstFree_2
set_option maxRecDepth 20000 in
theorem vB2_firstFree_22 : am_vl 2 false (some .int) cX2_firstFree B2_firstFree_22 = true := am_vt (tl := []) 2 0 (by decide +kernel) rfl rfl rfl
set_option maxRecDepth 20000 in
theorem vB2_firstFree_16 : am_vl 2 false (some .int) cX2_firstFree B2_firstFree_16 = true := am_vt (tl := B2_firstFree_22) 2 22 (by decide +kernel) rfl rfl vB2_firstFree_22
set_option maxRecDepth 20000 in
theorem vB2_firstFree_2 : am_vl 2 false (some .int) cX2_firstFree B2_firstFree_2 = true := am_vt (tl := B2_firstFree_16) 10 16 (by decide +kernel) rfl rfl vB2_firstFree_16
set_option maxRecDepth 20000 in
theorem vB2_firstFree_0 : am_vl 2 false (some .int) cX2_firstFree B2_firstFree_0 = true := am_vt (tl := B2_firstFree_2) 2 2 (by decide +kernel) rfl rfl vB2_firstFree_2
def B2_freeBox_35 : List am_I := (35, .return_, 0, 0, .null, []) :: []
def B2_freeBox_0 : List am_I := (0, .lload_n 1, 0, 0, .null, []) :: (1, .invokestatic 47, 41, 1, .int 0, []) :: (4, .ifCond .eq 31, 35, 0, .null, []) :: (7, .aload_n 0, 0, 0, .null, []) :: (8, .getfield 15, 2, 1, .null, []) :: (11, .lload_n 1, 0, 0, .null, []) :: (12, .l2i, 0, 0, .null, []) :: (13, .baload, 0, 0, .null, []) :: (14, .ifCond .eq 21, 35, 0, .null, []) :: (17, .aload_n 0, 0, 0, .null, []) :: (18, .getfield 15, 2, 1, .null, []) :: (21, .lload_n 1, 0, 0, .null, []) :: (22, .l2i, 0, 0, .null, []) :: (23, .iconst 0, 0, 0, .int 0, []) :: (24, .bastore, 0, 0, .null, []) :: (25, .aload_n 0, 0, 0, .null, []) :: (26, .dup, 0, 0, .null, []) :: (27, .getfield 26, 2, 4, .null, []) :: (30, .iconst 1, 0, 0, .int 1, []) :: (31, .isub, 0, 0, .null, []) :: (32, .putfield 26, 2, 4, .null, []) :: B2_freeBox_35
set_option maxRecDepth 20000 in
theorem vB2_freeBox_35 : am_vl 2 false none cX2_freeBox B2_freeBox_35 = true := am_vt (tl := []) 1 0 (by decide +kernel) rfl rfl rfl
set_option maxRecDepth 20000 in
theorem vB2_freeBox_0 : am_vl 2 false none cX2_freeBox B2_freeBox_0 = true := am_vt (tl := B2_freeBox_35) 21 35 (by decide +kernel) rfl rfl vB2_freeBox_35
def B2_freeRow_35 : List am_I := (35, .return_, 0, 0, .null, []) :: []
def B2_freeRow_0 : List am_I := (0, .lload_n 1, 0, 0, .null, []) :: (1, .invokestatic 51, 42, 1, .int 0, []) :: (4, .ifCond .eq 31, 35, 0, .null, []) :: (7, .aload_n 0, 0, 0, .null, []) :: (8, .getfield 19, 2, 2, .null, []) :: (11, .lload_n 1, 0, 0, .null, []) :: (12, .l2i, 0, 0, .null, []) :: (13, .baload, 0, 0, .null, []) :: (14, .ifCond .eq 21, 35, 0, .null, []) :: (17, .aload_n 0, 0, 0, .null, []) :: (18, .getfield 19, 2, 2, .null, []) :: (21, .lload_n 1, 0, 0, .null, []) :: (22, .l2i, 0, 0, .null, []) :: (23, .iconst 0, 0, 0, .int 0, []) :: (24, .bastore, 0, 0, .null, []) :: (25, .aload_n 0, 0, 0, .null, []) :: (26, .dup, 0, 0, .null, []) :: (27, .getfield 30, 2, 5, .null, []) :: (30, .iconst 1, 0, 0, .int 1, []) :: (31, .isub, 0, 0, .null, []) :: (32, .putfield 30, 2, 5, .null, []) :: B2_freeRow_35
set_option maxRecDepth 20000 in
theorem vB2_freeRow_35 : am_vl 2 false none cX2_freeRow B2_freeRow_35 = true := am_vt (tl := []) 1 0 (by decide +kernel) rfl rfl rfl
set_option maxRecDepth 20000 in
theorem vB2_freeRow_0 : am_vl 2 false none cX2_freeRow B2_freeRow_0 = true := am_vt (tl := B2_freeRow_35) 21 35 (by decide +kernel) rfl rfl vB2_freeRow_35
def B2_isBox_19 : List am_I := (19, .ireturn, 1, 0, .null, []) :: []
def B2_isBox_18 : List am_I := (18, .iconst 0, 0, 0, .int 0, []) :: B2_isBox_19
def B2_isBox_0 : List am_I := (0, .lload_n 0, 0, 0, .null, []) :: (1, .lconst 0, 0, 0, .long 0, []) :: (2, .lcmp, 0, 0, .null, []) :: (3, .ifCond .lt 15, 18, 0, .null, []) :: (6, .lload_n 0, 0, 0, .null, []) :: (7, .ldc2_w 54, 0, 0, .long 60, []) :: (10, .lcmp, 0, 0, .null, []) :: (11, .ifCond .ge 7, 18, 0, .null, []) :: (14, .iconst 1, 0, 0, .int 1, []) :: (15, .goto 4, 19, 0, .null, []) :: B2_isBox_18
set_option maxRecDepth 20000 in
theorem vB2_isBox_19 : am_vl 2 false (some .boolean) cX2_isBox B2_isBox_19 = true := am_vt (tl := []) 1 0 (by decide +kernel) rfl rfl rfl
set_option maxRecDepth 20000 in
theorem vB2_isBox_18 : am_vl 2 false (some .boolean) cX2_isBox B2_isBox_18 = true := am_vt (tl := B2_isBox_19) 1 19 (by decide +kernel) rfl rfl vB2_isBox_19
set_option maxRecDepth 20000 in
theorem vB2_isBox_0 : am_vl 2 false (some .boolean) cX2_isBox B2_isBox_0 = true := am_vt (tl := B2_isBox_18) 10 18 (by decide +kernel) rfl rfl vB2_isBox_18
def B2_isRow_19 : List am_I := (19, .ireturn, 1, 0, .null, []) :: []
def B2_isRow_18 : List am_I := (18, .iconst 0, 0, 0, .int 0, []) :: B2_isRow_19
def B2_isRow_0 : List am_I := (0, .lload_n 0, 0, 0, .null, []) :: (1, .lconst 0, 0, 0, .long 0, []) :: (2, .lcmp, 0, 0, .null, []) :: (3, .ifCond .lt 15, 18, 0, .null, []) :: (6, .lload_n 0, 0, 0, .null, []) :: (7, .ldc2_w 56, 0, 0, .long 20, []) :: (10, .lcmp, 0, 0, .null, []) :: (11, .ifCond .ge 7, 18, 0, .null, []) :: (14, .iconst 1, 0, 0, .int 1, []) :: (15, .goto 4, 19, 0, .null, []) :: B2_isRow_18
set_option maxRecDepth 20000 in
theorem vB2_isRow_19 : am_vl 2 false (some .boolean) cX2_isRow B2_isRow_19 = true := am_vt (tl := []) 1 0 (by decide +kernel) rfl rfl rfl
set_option maxRecDepth 20000 in
theorem vB2_isRow_18 : am_vl 2 false (some .boolean) cX2_isRow B2_isRow_18 = true := am_vt (tl := B2_isRow_19) 1 19 (by decide +kernel) rfl rfl vB2_isRow_19
set_option maxRecDepth 20000 in
theorem vB2_isRow_0 : am_vl 2 false (some .boolean) cX2_isRow B2_isRow_0 = true := am_vt (tl := B2_isRow_18) 10 18 (by decide +kernel) rfl rfl vB2_isRow_18
def B2_boxAt_20 : List am_I := (20, .ireturn, 0, 0, .null, []) :: []
def B2_boxAt_19 : List am_I := (19, .iconst (-1), 0, 0, .int (-1), []) :: B2_boxAt_20
def B2_boxAt_0 : List am_I := (0, .lload_n 1, 0, 0, .null, []) :: (1, .invokestatic 47, 41, 1, .int 0, []) :: (4, .ifCond .eq 15, 19, 0, .null, []) :: (7, .sipush 960, 0, 0, .int 960, []) :: (10, .lload_n 1, 0, 0, .null, []) :: (11, .l2i, 0, 0, .null, []) :: (12, .bipush 8, 0, 0, .int 8, []) :: (14, .imul, 0, 0, .null, []) :: (15, .iadd, 0, 0, .null, []) :: (16, .goto 4, 20, 0, .null, []) :: B2_boxAt_19
set_option maxRecDepth 20000 in
theorem vB2_boxAt_20 : am_vl 2 false (some .int) cX2_boxAt B2_boxAt_20 = true := am_vt (tl := []) 1 0 (by decide +kernel) rfl rfl rfl
set_option maxRecDepth 20000 in
theorem vB2_boxAt_19 : am_vl 2 false (some .int) cX2_boxAt B2_boxAt_19 = true := am_vt (tl := B2_boxAt_20) 1 20 (by decide +kernel) rfl rfl vB2_boxAt_20
set_option maxRecDepth 20000 in
theorem vB2_boxAt_0 : am_vl 2 false (some .int) cX2_boxAt B2_boxAt_0 = true := am_vt (tl := B2_boxAt_19) 10 19 (by decide +kernel) rfl rfl vB2_boxAt_19
def B2_rowAt_20 : List am_I := (20, .ireturn, 0, 0, .null, []) :: []
def B2_rowAt_19 : List am_I := (19, .iconst (-1), 0, 0, .int (-1), []) :: B2_rowAt_20
def B2_rowAt_0 : List am_I := (0, .lload_n 1, 0, 0, .null, []) :: (1, .invokestatic 51, 42, 1, .int 0, []) :: (4, .ifCond .eq 15, 19, 0, .null, []) :: (7, .sipush 1440, 0, 0, .int 1440, []) :: (10, .lload_n 1, 0, 0, .null, []) :: (11, .l2i, 0, 0, .null, []) :: (12, .bipush 64, 0, 0, .int 64, []) :: (14, .imul, 0, 0, .null, []) :: (15, .iadd, 0, 0, .null, []) :: (16, .goto 4, 20, 0, .null, []) :: B2_rowAt_19
set_option maxRecDepth 20000 in
theorem vB2_rowAt_20 : am_vl 2 false (some .int) cX2_rowAt B2_rowAt_20 = true := am_vt (tl := []) 1 0 (by decide +kernel) rfl rfl rfl
set_option maxRecDepth 20000 in
theorem vB2_rowAt_19 : am_vl 2 false (some .int) cX2_rowAt B2_rowAt_19 = true := am_vt (tl := B2_rowAt_20) 1 20 (by decide +kernel) rfl rfl vB2_rowAt_20
set_option maxRecDepth 20000 in
theorem vB2_rowAt_0 : am_vl 2 false (some .int) cX2_rowAt B2_rowAt_0 = true := am_vt (tl := B2_rowAt_19) 10 19 (by decide +kernel) rfl rfl vB2_rowAt_19
def B2_elementAt_21 : List am_I := (21, .ireturn, 0, 0, .null, []) :: []
def B2_elementAt_20 : List am_I := (20, .iconst (-1), 0, 0, .int (-1), []) :: B2_elementAt_21
def B2_elementAt_0 : List am_I := (0, .lload_n 1, 0, 0, .null, []) :: (1, .invokestatic 51, 42, 1, .int 0, []) :: (4, .ifCond .eq 16, 20, 0, .null, []) :: (7, .aload_n 0, 0, 0, .null, []) :: (8, .lload_n 1, 0, 0, .null, []) :: (9, .invokevirtual 58, 44, 1, .ref 2, []) :: (12, .iload_n 3, 0, 0, .null, []) :: (13, .bipush 8, 0, 0, .int 8, []) :: (15, .imul, 0, 0, .null, []) :: (16, .iadd, 0, 0, .null, []) :: (17, .goto 4, 21, 0, .null, []) :: B2_elementAt_20
set_option maxRecDepth 20000 in
theorem vB2_elementAt_21 : am_vl 2 false (some .int) cX2_elementAt B2_elementAt_21 = true := am_vt (tl := []) 1 0 (by decide +kernel) rfl rfl rfl
set_option maxRecDepth 20000 in
theorem vB2_elementAt_20 : am_vl 2 false (some .int) cX2_elementAt B2_elementAt_20 = true := am_vt (tl := B2_elementAt_21) 1 21 (by decide +kernel) rfl rfl vB2_elementAt_21
set_option maxRecDepth 20000 in
theorem vB2_elementAt_0 : am_vl 2 false (some .int) cX2_elementAt B2_elementAt_0 = true := am_vt (tl := B2_elementAt_20) 11 20 (by decide +kernel) rfl rfl vB2_elementAt_20
def B2_lengthOf_18 : List am_I := (18, .ireturn, 0, 0, .null, []) :: []
def B2_lengthOf_17 : List am_I := (17, .iconst 0, 0, 0, .int 0, []) :: B2_lengthOf_18
def B2_lengthOf_0 : List am_I := (0, .lload_n 1, 0, 0, .null, []) :: (1, .invokestatic 51, 42, 1, .int 0, []) :: (4, .ifCond .eq 13, 17, 0, .null, []) :: (7, .aload_n 0, 0, 0, .null, []) :: (8, .getfield 22, 2, 3, .null, []) :: (11, .lload_n 1, 0, 0, .null, []) :: (12, .l2i, 0, 0, .null, []) :: (13, .iaload, 0, 0, .null, []) :: (14, .goto 4, 18, 0, .null, []) :: B2_lengthOf_17
set_option maxRecDepth 20000 in
theorem vB2_lengthOf_18 : am_vl 2 false (some .int) cX2_lengthOf B2_lengthOf_18 = true := am_vt (tl := []) 1 0 (by decide +kernel) rfl rfl rfl
set_option maxRecDepth 20000 in
theorem vB2_lengthOf_17 : am_vl 2 false (some .int) cX2_lengthOf B2_lengthOf_17 = true := am_vt (tl := B2_lengthOf_18) 1 18 (by decide +kernel) rfl rfl vB2_lengthOf_18
set_option maxRecDepth 20000 in
theorem vB2_lengthOf_0 : am_vl 2 false (some .int) cX2_lengthOf B2_lengthOf_0 = true := am_vt (tl := B2_lengthOf_17) 9 17 (by decide +kernel) rfl rfl vB2_lengthOf_17
def B2_setLength_15 : List am_I := (15, .return_, 0, 0, .null, []) :: []
def B2_setLength_0 : List am_I := (0, .lload_n 1, 0, 0, .null, []) :: (1, .invokestatic 51, 42, 1, .int 0, []) :: (4, .ifCond .eq 11, 15, 0, .null, []) :: (7, .aload_n 0, 0, 0, .null, []) :: (8, .getfield 22, 2, 3, .null, []) :: (11, .lload_n 1, 0, 0, .null, []) :: (12, .l2i, 0, 0, .null, []) :: (13, .iload_n 3, 0, 0, .null, []) :: (14, .iastore, 0, 0, .null, []) :: B2_setLength_15
set_option maxRecDepth 20000 in
theorem vB2_setLength_15 : am_vl 2 false none cX2_setLength B2_setLength_15 = true := am_vt (tl := []) 1 0 (by decide +kernel) rfl rfl rfl
set_option maxRecDepth 20000 in
theorem vB2_setLength_0 : am_vl 2 false none cX2_setLength B2_setLength_0 = true := am_vt (tl := B2_setLength_15) 9 15 (by decide +kernel) rfl rfl vB2_setLength_15
def B3_init_42 : List am_I := (42, .pop, 0, 0, .null, []) :: (43, .return_, 0, 0, .null, []) :: []
def B3_init_0 : List am_I := (0, .aload_n 0, 0, 0, .null, []) :: (1, .invokespecial 3, 0, 0, .null, []) :: (4, .aload_n 0, 0, 0, .null, []) :: (5, .bipush 24, 0, 0, .int 24, []) :: (7, .newarray .int, 0, 0, .null, []) :: (9, .putfield 9, 3, 0, .null, []) :: (12, .aload_n 0, 0, 0, .null, []) :: (13, .bipush 24, 0, 0, .int 24, []) :: (15, .newarray .int, 0, 0, .null, []) :: (17, .putfield 15, 3, 1, .null, []) :: (20, .aload_n 0, 0, 0, .null, []) :: (21, .bipush 72, 0, 0, .int 72, []) :: (23, .newarray .int, 0, 0, .null, []) :: (25, .putfield 18, 3, 2, .null, []) :: (28, .aload_n 0, 0, 0, .null, []) :: (29, .iconst 0, 0, 0, .int 0, []) :: (30, .putfield 21, 3, 3, .null, []) :: (33, .aload_n 0, 0, 0, .null, []) :: (34, .iconst 0, 0, 0, .int 0, []) :: (35, .iconst 1, 0, 0, .int 1, []) :: (36, .iconst (-1), 0, 0, .int (-1), []) :: (37, .iconst (-1), 0, 0, .int (-1), []) :: (38, .iconst (-1), 0, 0, .int (-1), []) :: (39, .invokevirtual 25, 49, 5, .ref 3, []) :: B3_init_42
set_option maxRecDepth 20000 in
theorem vB3_init_42 : am_vl 3 true none cX3_init B3_init_42 = true := am_vt (tl := []) 2 0 (by decide +kernel) rfl rfl rfl
set_option maxRecDepth 20000 in
theorem vB3_init_0 : am_vl 3 true none cX3_init B3_init_0 = true := am_vt (tl := B3_init_42) 24 42 (by decide +kernel) rfl rfl vB3_init_42
def B3_add_93 : List am_I := (93, .iconst 1, 0, 0, .int 1, []) :: (94, .isub, 0, 0, .null, []) :: (95, .ireturn, 0, 0, .null, []) :: []
def B3_add_57 : List am_I := (57, .iconst 3, 0, 0, .int 3, []) :: (58, .imul, 0, 0, .null, []) :: (59, .iconst 1, 0, 0, .int 1, []) :: (60, .iadd, 0, 0, .null, []) :: (61, .iload 4, 0, 0, .null, []) :: (63, .iastore, 0, 0, .null, []) :: (64, .aload_n 0, 0, 0, .null, []) :: (65, .getfield 18, 3, 2, .null, []) :: (68, .aload_n 0, 0, 0, .null, []) :: (69, .getfield 21, 3, 3, .null, []) :: (72, .iconst 3, 0, 0, .int 3, []) :: (73, .imul, 0, 0, .null, []) :: (74, .iconst 2, 0, 0, .int 2, []) :: (75, .iadd, 0, 0, .null, []) :: (76, .iload 5, 0, 0, .null, []) :: (78, .iastore, 0, 0, .null, []) :: (79, .aload_n 0, 0, 0, .null, []) :: (80, .dup, 0, 0, .null, []) :: (81, .getfield 21, 3, 3, .null, []) :: (84, .iconst 1, 0, 0, .int 1, []) :: (85, .iadd, 0, 0, .null, []) :: (86, .putfield 21, 3, 3, .null, []) :: (89, .aload_n 0, 0, 0, .null, []) :: (90, .getfield 21, 3, 3, .null, []) :: B3_add_93
def B3_add_17 : List am_I := (17, .aload_n 0, 0, 0, .null, []) :: (18, .getfield 9, 3, 0, .null, []) :: (21, .aload_n 0, 0, 0, .null, []) :: (22, .getfield 21, 3, 3, .null, []) :: (25, .iload_n 1, 0, 0, .null, []) :: (26, .iastore, 0, 0, .null, []) :: (27, .aload_n 0, 0, 0, .null, []) :: (28, .getfield 15, 3, 1, .null, []) :: (31, .aload_n 0, 0, 0, .null, []) :: (32, .getfield 21, 3, 3, .null, []) :: (35, .iload_n 2, 0, 0, .null, []) :: (36, .iastore, 0, 0, .null, []) :: (37, .aload_n 0, 0, 0, .null, []) :: (38, .getfield 18, 3, 2, .null, []) :: (41, .aload_n 0, 0, 0, .null, []) :: (42, .getfield 21, 3, 3, .null, []) :: (45, .iconst 3, 0, 0, .int 3, []) :: (46, .imul, 0, 0, .null, []) :: (47, .iload_n 3, 0, 0, .null, []) :: (48, .iastore, 0, 0, .null, []) :: (49, .aload_n 0, 0, 0, .null, []) :: (50, .getfield 18, 3, 2, .null, []) :: (53, .aload_n 0, 0, 0, .null, []) :: (54, .getfield 21, 3, 3, .null, []) :: B3_add_57
def B3_add_15 : List am_I := (15, .iconst (-1), 0, 0, .int (-1), []) :: (16, .ireturn, 0, 0, .null, []) :: B3_add_17
def B3_add_0 : List am_I := (0, .aload_n 0, 0, 0, .null, []) :: (1, .getfield 21, 3, 3, .null, []) :: (4, .bipush 24, 0, 0, .int 24, []) :: (6, .if_icmp .ge 9, 15, 0, .null, []) :: (9, .iload_n 2, 0, 0, .null, []) :: (10, .bipush 8, 0, 0, .int 8, []) :: (12, .if_icmp .le 5, 17, 0, .null, []) :: B3_add_15
set_option maxRecDepth 20000 in
theorem vB3_add_93 : am_vl 3 false (some .int) cX3_add B3_add_93 = true := am_vt (tl := []) 3 0 (by decide +kernel) rfl rfl rfl
set_option maxRecDepth 20000 in
theorem vB3_add_57 : am_vl 3 false (some .int) cX3_add B3_add_57 = true := am_vt (tl := B3_add_93) 24 93 (by decide +kernel) rfl rfl vB3_add_93
set_option maxRecDepth 20000 in
theorem vB3_add_17 : am_vl 3 false (some .int) cX3_add B3_add_17 = true := am_vt (tl := B3_add_57) 24 57 (by decide +kernel) rfl rfl vB3_add_57
set_option maxRecDepth 20000 in
theorem vB3_add_15 : am_vl 3 false (some .int) cX3_add B3_add_15 = true := am_vt (tl := B3_add_17) 2 17 (by decide +kernel) rfl rfl vB3_add_17
set_option maxRecDepth 20000 in
theorem vB3_add_0 : am_vl 3 false (some .int) cX3_add B3_add_0 = true := am_vt (tl := B3_add_15) 7 15 (by decide +kernel) rfl rfl vB3_add_15
def B3_tieLooseBox_29 : List am_I := (29, .aload_n 0, 0, 0, .null, []) :: (30, .getfield 18, 3, 2, .null, []) :: (33, .iload_n 1, 0, 0, .null, []) :: (34, .iconst 3, 0, 0, .int 3, []) :: (35, .imul, 0, 0, .null, []) :: (36, .iload_n 2, 0, 0, .null, []) :: (37, .iastore, 0, 0, .null, []) :: (38, .iconst 1, 0, 0, .int 1, []) :: (39, .ireturn, 1, 0, .null, []) :: []
def B3_tieLooseBox_27 : List am_I := (27, .iconst 0, 0, 0, .int 0, []) :: (28, .ireturn, 1, 0, .null, []) :: B3_tieLooseBox_29
def B3_tieLooseBox_0 : List am_I := (0, .aload_n 0, 0, 0, .null, []) :: (1, .iload_n 1, 0, 0, .null, []) :: (2, .invokevirtual 29, 54, 1, .ref 3, []) :: (5, .iconst 4, 0, 0, .int 4, []) :: (6, .if_icmp .ne 21, 27, 0, .null, []) :: (9, .aload_n 0, 0, 0, .null, []) :: (10, .iload_n 1, 0, 0, .null, []) :: (11, .iconst 0, 0, 0, .int 0, []) :: (12, .invokevirtual 33, 56, 2, .ref 3, []) :: (15, .iconst (-1), 0, 0, .int (-1), []) :: (16, .if_icmp .ne 11, 27, 0, .null, []) :: (19, .aload_n 0, 0, 0, .null, []) :: (20, .iload_n 2, 0, 0, .null, []) :: (21, .invokevirtual 37, 52, 1, .ref 3, []) :: (24, .ifCond .ne 5, 29, 0, .null, []) :: B3_tieLooseBox_27
set_option maxRecDepth 20000 in
theorem vB3_tieLooseBox_29 : am_vl 3 false (some .boolean) cX3_tieLooseBox B3_tieLooseBox_29 = true := am_vt (tl := []) 9 0 (by decide +kernel) rfl rfl rfl
set_option maxRecDepth 20000 in
theorem vB3_tieLooseBox_27 : am_vl 3 false (some .boolean) cX3_tieLooseBox B3_tieLooseBox_27 = true := am_vt (tl := B3_tieLooseBox_29) 2 29 (by decide +kernel) rfl rfl vB3_tieLooseBox_29
set_option maxRecDepth 20000 in
theorem vB3_tieLooseBox_0 : am_vl 3 false (some .boolean) cX3_tieLooseBox B3_tieLooseBox_0 = true := am_vt (tl := B3_tieLooseBox_27) 15 27 (by decide +kernel) rfl rfl vB3_tieLooseBox_27
def B3_howMany_0 : List am_I := (0, .aload_n 0, 0, 0, .null, []) :: (1, .getfield 21, 3, 3, .null, []) :: (4, .ireturn, 0, 0, .null, []) :: []
set_option maxRecDepth 20000 in
theorem vB3_howMany_0 : am_vl 3 false (some .int) cX3_howMany B3_howMany_0 = true := am_vt (tl := []) 3 0 (by decide +kernel) rfl rfl rfl
def B3_has_17 : List am_I := (17, .ireturn, 1, 0, .null, []) :: []
def B3_has_16 : List am_I := (16, .iconst 0, 0, 0, .int 0, []) :: B3_has_17
def B3_has_0 : List am_I := (0, .iload_n 1, 0, 0, .null, []) :: (1, .ifCond .lt 15, 16, 0, .null, []) :: (4, .iload_n 1, 0, 0, .null, []) :: (5, .aload_n 0, 0, 0, .null, []) :: (6, .getfield 21, 3, 3, .null, []) :: (9, .if_icmp .ge 7, 16, 0, .null, []) :: (12, .iconst 1, 0, 0, .int 1, []) :: (13, .goto 4, 17, 0, .null, []) :: B3_has_16
set_option maxRecDepth 20000 in
theorem vB3_has_17 : am_vl 3 false (some .boolean) cX3_has B3_has_17 = true := am_vt (tl := []) 1 0 (by decide +kernel) rfl rfl rfl
set_option maxRecDepth 20000 in
theorem vB3_has_16 : am_vl 3 false (some .boolean) cX3_has B3_has_16 = true := am_vt (tl := B3_has_17) 1 17 (by decide +kernel) rfl rfl vB3_has_17
set_option maxRecDepth 20000 in
theorem vB3_has_0 : am_vl 3 false (some .boolean) cX3_has B3_has_0 = true := am_vt (tl := B3_has_16) 8 16 (by decide +kernel) rfl rfl vB3_has_16
def B3_hasOrNone_18 : List am_I := (18, .ireturn, 1, 0, .null, []) :: []
def B3_hasOrNone_17 : List am_I := (17, .iconst 0, 0, 0, .int 0, []) :: B3_hasOrNone_18
def B3_hasOrNone_13 : List am_I := (13, .iconst 1, 0, 0, .int 1, []) :: (14, .goto 4, 18, 0, .null, []) :: B3_hasOrNone_17
def B3_hasOrNone_0 : List am_I := (0, .iload_n 1, 0, 0, .null, []) :: (1, .iconst (-1), 0, 0, .int (-1), []) :: (2, .if_icmp .eq 11, 13, 0, .null, []) :: (5, .aload_n 0, 0, 0, .null, []) :: (6, .iload_n 1, 0, 0, .null, []) :: (7, .invokevirtual 37, 52, 1, .ref 3, []) :: (10, .ifCond .eq 7, 17, 0, .null, []) :: B3_hasOrNone_13
set_option maxRecDepth 20000 in
theorem vB3_hasOrNone_18 : am_vl 3 false (some .boolean) cX3_hasOrNone B3_hasOrNone_18 = true := am_vt (tl := []) 1 0 (by decide +kernel) rfl rfl rfl
set_option maxRecDepth 20000 in
theorem vB3_hasOrNone_17 : am_vl 3 false (some .boolean) cX3_hasOrNone B3_hasOrNone_17 = true := am_vt (tl := B3_hasOrNone_18) 1 18 (by decide +kernel) rfl rfl vB3_hasOrNone_18
set_option maxRecDepth 20000 in
theorem vB3_hasOrNone_13 : am_vl 3 false (some .boolean) cX3_hasOrNone B3_hasOrNone_13 = true := am_vt (tl := B3_hasOrNone_17) 2 17 (by decide +kernel) rfl rfl vB3_hasOrNone_17
set_option maxRecDepth 20000 in
theorem vB3_hasOrNone_0 : am_vl 3 false (some .boolean) cX3_hasOrNone B3_hasOrNone_0 = true := am_vt (tl := B3_hasOrNone_13) 7 13 (by decide +kernel) rfl rfl vB3_hasOrNone_13
def B3_kindOf_18 : List am_I := (18, .ireturn, 0, 0, .null, []) :: []
def B3_kindOf_17 : List am_I := (17, .iconst (-1), 0, 0, .int (-1), []) :: B3_kindOf_18
def B3_kindOf_0 : List am_I := (0, .aload_n 0, 0, 0, .null, []) :: (1, .iload_n 1, 0, 0, .null, []) :: (2, .invokevirtual 37, 52, 1, .ref 3, []) :: (5, .ifCond .eq 12, 17, 0, .null, []) :: (8, .aload_n 0, 0, 0, .null, []) :: (9, .getfield 9, 3, 0, .null, []) :: (12, .iload_n 1, 0, 0, .null, []) :: (13, .iaload, 0, 0, .null, []) :: (14, .goto 4, 18, 0, .null, []) :: B3_kindOf_17
set_option maxRecDepth 20000 in
theorem vB3_kindOf_18 : am_vl 3 false (some .int) cX3_kindOf B3_kindOf_18 = true := am_vt (tl := []) 1 0 (by decide +kernel) rfl rfl rfl
set_option maxRecDepth 20000 in
theorem vB3_kindOf_17 : am_vl 3 false (some .int) cX3_kindOf B3_kindOf_17 = true := am_vt (tl := B3_kindOf_18) 1 18 (by decide +kernel) rfl rfl vB3_kindOf_18
set_option maxRecDepth 20000 in
theorem vB3_kindOf_0 : am_vl 3 false (some .int) cX3_kindOf B3_kindOf_0 = true := am_vt (tl := B3_kindOf_17) 9 17 (by decide +kernel) rfl rfl vB3_kindOf_17
def B3_sizeOf_18 : List am_I := (18, .ireturn, 0, 0, .null, []) :: []
def B3_sizeOf_17 : List am_I := (17, .iconst 0, 0, 0, .int 0, []) :: B3_sizeOf_18
def B3_sizeOf_0 : List am_I := (0, .aload_n 0, 0, 0, .null, []) :: (1, .iload_n 1, 0, 0, .null, []) :: (2, .invokevirtual 37, 52, 1, .ref 3, []) :: (5, .ifCond .eq 12, 17, 0, .null, []) :: (8, .aload_n 0, 0, 0, .null, []) :: (9, .getfield 15, 3, 1, .null, []) :: (12, .iload_n 1, 0, 0, .null, []) :: (13, .iaload, 0, 0, .null, []) :: (14, .goto 4, 18, 0, .null, []) :: B3_sizeOf_17
set_option maxRecDepth 20000 in
theorem vB3_sizeOf_18 : am_vl 3 false (some .int) cX3_sizeOf B3_sizeOf_18 = true := am_vt (tl := []) 1 0 (by decide +kernel) rfl rfl rfl
set_option maxRecDepth 20000 in
theorem vB3_sizeOf_17 : am_vl 3 false (some .int) cX3_sizeOf B3_sizeOf_17 = true := am_vt (tl := B3_sizeOf_18) 1 18 (by decide +kernel) rfl rfl vB3_sizeOf_18
set_option maxRecDepth 20000 in
theorem vB3_sizeOf_0 : am_vl 3 false (some .int) cX3_sizeOf B3_sizeOf_0 = true := am_vt (tl := B3_sizeOf_17) 9 17 (by decide +kernel) rfl rfl vB3_sizeOf_17
def B3_partOf_19 : List am_I := (19, .aload_n 0, 0, 0, .null, []) :: (20, .getfield 18, 3, 2, .null, []) :: (23, .iload_n 1, 0, 0, .null, []) :: (24, .iconst 3, 0, 0, .int 3, []) :: (25, .imul, 0, 0, .null, []) :: (26, .iload_n 2, 0, 0, .null, []) :: (27, .iadd, 0, 0, .null, []) :: (28, .iaload, 0, 0, .null, []) :: (29, .ireturn, 0, 0, .null, []) :: []
def B3_partOf_17 : List am_I := (17, .iconst (-1), 0, 0, .int (-1), []) :: (18, .ireturn, 0, 0, .null, []) :: B3_partOf_19
def B3_partOf_0 : List am_I := (0, .aload_n 0, 0, 0, .null, []) :: (1, .iload_n 1, 0, 0, .null, []) :: (2, .invokevirtual 37, 52, 1, .ref 3, []) :: (5, .ifCond .eq 12, 17, 0, .null, []) :: (8, .iload_n 2, 0, 0, .null, []) :: (9, .ifCond .lt 8, 17, 0, .null, []) :: (12, .iload_n 2, 0, 0, .null, []) :: (13, .iconst 3, 0, 0, .int 3, []) :: (14, .if_icmp .lt 5, 19, 0, .null, []) :: B3_partOf_17
set_option maxRecDepth 20000 in
theorem vB3_partOf_19 : am_vl 3 false (some .int) cX3_partOf B3_partOf_19 = true := am_vt (tl := []) 9 0 (by decide +kernel) rfl rfl rfl
set_option maxRecDepth 20000 in
theorem vB3_partOf_17 : am_vl 3 false (some .int) cX3_partOf B3_partOf_17 = true := am_vt (tl := B3_partOf_19) 2 19 (by decide +kernel) rfl rfl vB3_partOf_19
set_option maxRecDepth 20000 in
theorem vB3_partOf_0 : am_vl 3 false (some .int) cX3_partOf B3_partOf_0 = true := am_vt (tl := B3_partOf_17) 9 17 (by decide +kernel) rfl rfl vB3_partOf_17
def B3_partsOf_28 : List am_I := (28, .iload_n 2, 0, 0, .null, []) :: (29, .ireturn, 0, 0, .null, []) :: []
def B3_partsOf_22 : List am_I := (22, .iinc 3 1, 0, 0, .int 1, []) :: (25, .goto (-21), 4, 0, .null, []) :: B3_partsOf_28
def B3_partsOf_4 : List am_I := (4, .iload_n 3, 0, 0, .null, []) :: (5, .iconst 3, 0, 0, .int 3, []) :: (6, .if_icmp .ge 22, 28, 0, .null, []) :: (9, .aload_n 0, 0, 0, .null, []) :: (10, .iload_n 1, 0, 0, .null, []) :: (11, .iload_n 3, 0, 0, .null, []) :: (12, .invokevirtual 33, 56, 2, .ref 3, []) :: (15, .iconst (-1), 0, 0, .int (-1), []) :: (16, .if_icmp .eq 6, 22, 0, .null, []) :: (19, .iinc 2 1, 0, 0, .int 1, []) :: B3_partsOf_22
def B3_partsOf_0 : List am_I := (0, .iconst 0, 0, 0, .int 0, []) :: (1, .istore_n 2, 0, 0, .null, []) :: (2, .iconst 0, 0, 0, .int 0, []) :: (3, .istore_n 3, 0, 0, .null, []) :: B3_partsOf_4
set_option maxRecDepth 20000 in
theorem vB3_partsOf_28 : am_vl 3 false (some .int) cX3_partsOf B3_partsOf_28 = true := am_vt (tl := []) 2 0 (by decide +kernel) rfl rfl rfl
set_option maxRecDepth 20000 in
theorem vB3_partsOf_22 : am_vl 3 false (some .int) cX3_partsOf B3_partsOf_22 = true := am_vt (tl := B3_partsOf_28) 2 28 (by decide +kernel) rfl rfl vB3_partsOf_28
set_option maxRecDepth 20000 in
theorem vB3_partsOf_4 : am_vl 3 false (some .int) cX3_partsOf B3_partsOf_4 = true := am_vt (tl := B3_partsOf_22) 10 22 (by decide +kernel) rfl rfl vB3_partsOf_22
set_option maxRecDepth 20000 in
theorem vB3_partsOf_0 : am_vl 3 false (some .int) cX3_partsOf B3_partsOf_0 = true := am_vt (tl := B3_partsOf_4) 4 4 (by decide +kernel) rfl rfl vB3_partsOf_4
def B3_offsetOf_37 : List am_I := (37, .iload_n 3, 0, 0, .null, []) :: (38, .ireturn, 0, 0, .null, []) :: []
def B3_offsetOf_5 : List am_I := (5, .iload 4, 0, 0, .null, []) :: (7, .iload_n 2, 0, 0, .null, []) :: (8, .if_icmp .ge 29, 37, 0, .null, []) :: (11, .iload 4, 0, 0, .null, []) :: (13, .iconst 3, 0, 0, .int 3, []) :: (14, .if_icmp .ge 23, 37, 0, .null, []) :: (17, .iload_n 3, 0, 0, .null, []) :: (18, .aload_n 0, 0, 0, .null, []) :: (19, .aload_n 0, 0, 0, .null, []) :: (20, .iload_n 1, 0, 0, .null, []) :: (21, .iload 4, 0, 0, .null, []) :: (23, .invokevirtual 33, 56, 2, .ref 3, []) :: (26, .invokevirtual 41, 55, 1, .ref 3, []) :: (29, .iadd, 0, 0, .null, []) :: (30, .istore_n 3, 0, 0, .null, []) :: (31, .iinc 4 1, 0, 0, .int 1, []) :: (34, .goto (-29), 5, 0, .null, []) :: B3_offsetOf_37
def B3_offsetOf_0 : List am_I := (0, .iconst 0, 0, 0, .int 0, []) :: (1, .istore_n 3, 0, 0, .null, []) :: (2, .iconst 0, 0, 0, .int 0, []) :: (3, .istore 4, 0, 0, .null, []) :: B3_offsetOf_5
set_option maxRecDepth 20000 in
theorem vB3_offsetOf_37 : am_vl 3 false (some .int) cX3_offsetOf B3_offsetOf_37 = true := am_vt (tl := []) 2 0 (by decide +kernel) rfl rfl rfl
set_option maxRecDepth 20000 in
theorem vB3_offsetOf_5 : am_vl 3 false (some .int) cX3_offsetOf B3_offsetOf_5 = true := am_vt (tl := B3_offsetOf_37) 17 37 (by decide +kernel) rfl rfl vB3_offsetOf_37
set_option maxRecDepth 20000 in
theorem vB3_offsetOf_0 : am_vl 3 false (some .int) cX3_offsetOf B3_offsetOf_0 = true := am_vt (tl := B3_offsetOf_5) 4 5 (by decide +kernel) rfl rfl vB3_offsetOf_5
end
section
def B4_init_50 : List am_I := (50, .invokespecial 32, 0, 2, .int 0, []) :: (53, .putfield 35, 4, 3, .null, []) :: (56, .aload_n 0, 0, 0, .null, []) :: (57, .iconst 0, 0, 0, .int 0, []) :: (58, .putfield 39, 4, 4, .null, []) :: (61, .aload_n 0, 0, 0, .null, []) :: (62, .iconst (-1), 0, 0, .int (-1), []) :: (63, .putfield 43, 4, 5, .null, []) :: (66, .return_, 0, 0, .null, []) :: []
def B4_init_0 : List am_I := (0, .aload_n 0, 0, 0, .null, []) :: (1, .invokespecial 3, 0, 0, .null, []) :: (4, .aload_n 0, 0, 0, .null, []) :: (5, .new 9, 3, 0, .null, []) :: (8, .dup, 0, 0, .null, []) :: (9, .invokespecial 11, 48, 0, .int 0, []) :: (12, .putfield 12, 4, 0, .null, []) :: (15, .aload_n 0, 0, 0, .null, []) :: (16, .new 16, 2, 0, .null, []) :: (19, .dup, 0, 0, .null, []) :: (20, .invokespecial 18, 28, 0, .int 1, []) :: (23, .putfield 19, 4, 1, .null, []) :: (26, .aload_n 0, 0, 0, .null, []) :: (27, .new 23, 1, 0, .null, []) :: (30, .dup, 0, 0, .null, []) :: (31, .invokespecial 25, 11, 0, .int 0, []) :: (34, .putfield 26, 4, 2, .null, []) :: (37, .aload_n 0, 0, 0, .null, []) :: (38, .new 30, 0, 0, .null, []) :: (41, .dup, 0, 0, .null, []) :: (42, .aload_n 0, 0, 0, .null, []) :: (43, .getfield 12, 4, 0, .null, []) :: (46, .aload_n 0, 0, 0, .null, []) :: (47, .getfield 19, 4, 1, .null, []) :: B4_init_50
set_option maxRecDepth 20000 in
theorem vB4_init_50 : am_vl 4 true none cX4_init B4_init_50 = true := am_vt (tl := []) 9 0 (by decide +kernel) rfl rfl rfl
set_option maxRecDepth 20000 in
theorem vB4_init_0 : am_vl 4 true none cX4_init B4_init_0 = true := am_vt (tl := B4_init_50) 24 50 (by decide +kernel) rfl rfl vB4_init_50
def B4_record_101 : List am_I := (101, .iload 5, 0, 0, .null, []) :: (103, .iload_n 2, 0, 0, .null, []) :: (104, .iload_n 3, 0, 0, .null, []) :: (105, .iload 4, 0, 0, .null, []) :: (107, .invokevirtual 57, 49, 5, .ref 3, []) :: (110, .ireturn, 0, 0, .null, []) :: []
def B4_record_100 : List am_I := (100, .iconst 1, 0, 0, .int 1, []) :: B4_record_101
def B4_record_59 : List am_I := (59, .aload_n 0, 0, 0, .null, []) :: (60, .getfield 12, 4, 0, .null, []) :: (63, .iload_n 2, 0, 0, .null, []) :: (64, .invokevirtual 53, 55, 1, .ref 3, []) :: (67, .aload_n 0, 0, 0, .null, []) :: (68, .getfield 12, 4, 0, .null, []) :: (71, .iload_n 3, 0, 0, .null, []) :: (72, .invokevirtual 53, 55, 1, .ref 3, []) :: (75, .iadd, 0, 0, .null, []) :: (76, .aload_n 0, 0, 0, .null, []) :: (77, .getfield 12, 4, 0, .null, []) :: (80, .iload 4, 0, 0, .null, []) :: (82, .invokevirtual 53, 55, 1, .ref 3, []) :: (85, .iadd, 0, 0, .null, []) :: (86, .istore 5, 0, 0, .null, []) :: (88, .aload_n 0, 0, 0, .null, []) :: (89, .getfield 12, 4, 0, .null, []) :: (92, .iload_n 1, 0, 0, .null, []) :: (93, .ifCond .eq 7, 100, 0, .null, []) :: (96, .iconst 2, 0, 0, .int 2, []) :: (97, .goto 4, 101, 0, .null, []) :: B4_record_100
def B4_record_49 : List am_I := (49, .iload_n 1, 0, 0, .null, []) :: (50, .ifCond .eq 9, 59, 0, .null, []) :: (53, .iload_n 2, 0, 0, .null, []) :: (54, .ifCond .eq 5, 59, 0, .null, []) :: (57, .iconst (-1), 0, 0, .int (-1), []) :: (58, .ireturn, 0, 0, .null, []) :: B4_record_59
def B4_record_36 : List am_I := (36, .iload_n 3, 0, 0, .null, []) :: (37, .iconst (-1), 0, 0, .int (-1), []) :: (38, .if_icmp .ne 11, 49, 0, .null, []) :: (41, .iload 4, 0, 0, .null, []) :: (43, .iconst (-1), 0, 0, .int (-1), []) :: (44, .if_icmp .eq 5, 49, 0, .null, []) :: (47, .iconst (-1), 0, 0, .int (-1), []) :: (48, .ireturn, 0, 0, .null, []) :: B4_record_49
def B4_record_34 : List am_I := (34, .iconst (-1), 0, 0, .int (-1), []) :: (35, .ireturn, 0, 0, .null, []) :: B4_record_36
def B4_record_0 : List am_I := (0, .aload_n 0, 0, 0, .null, []) :: (1, .getfield 12, 4, 0, .null, []) :: (4, .iload_n 2, 0, 0, .null, []) :: (5, .invokevirtual 46, 52, 1, .ref 3, []) :: (8, .ifCond .eq 26, 34, 0, .null, []) :: (11, .aload_n 0, 0, 0, .null, []) :: (12, .getfield 12, 4, 0, .null, []) :: (15, .iload_n 3, 0, 0, .null, []) :: (16, .invokevirtual 50, 53, 1, .ref 3, []) :: (19, .ifCond .eq 15, 34, 0, .null, []) :: (22, .aload_n 0, 0, 0, .null, []) :: (23, .getfield 12, 4, 0, .null, []) :: (26, .iload 4, 0, 0, .null, []) :: (28, .invokevirtual 50, 53, 1, .ref 3, []) :: (31, .ifCond .ne 5, 36, 0, .null, []) :: B4_record_34
set_option maxRecDepth 20000 in
theorem vB4_record_101 : am_vl 4 false (some .int) cX4_record B4_record_101 = true := am_vt (tl := []) 6 0 (by decide +kernel) rfl rfl rfl
set_option maxRecDepth 20000 in
theorem vB4_record_100 : am_vl 4 false (some .int) cX4_record B4_record_100 = true := am_vt (tl := B4_record_101) 1 101 (by decide +kernel) rfl rfl vB4_record_101
set_option maxRecDepth 20000 in
theorem vB4_record_59 : am_vl 4 false (some .int) cX4_record B4_record_59 = true := am_vt (tl := B4_record_100) 21 100 (by decide +kernel) rfl rfl vB4_record_100
set_option maxRecDepth 20000 in
theorem vB4_record_49 : am_vl 4 false (some .int) cX4_record B4_record_49 = true := am_vt (tl := B4_record_59) 6 59 (by decide +kernel) rfl rfl vB4_record_59
set_option maxRecDepth 20000 in
theorem vB4_record_36 : am_vl 4 false (some .int) cX4_record B4_record_36 = true := am_vt (tl := B4_record_49) 8 49 (by decide +kernel) rfl rfl vB4_record_49
set_option maxRecDepth 20000 in
theorem vB4_record_34 : am_vl 4 false (some .int) cX4_record B4_record_34 = true := am_vt (tl := B4_record_36) 2 36 (by decide +kernel) rfl rfl vB4_record_36
set_option maxRecDepth 20000 in
theorem vB4_record_0 : am_vl 4 false (some .int) cX4_record B4_record_0 = true := am_vt (tl := B4_record_34) 15 34 (by decide +kernel) rfl rfl vB4_record_34
def B4_choice_79 : List am_I := (79, .invokevirtual 57, 49, 5, .ref 3, []) :: (82, .ireturn, 0, 0, .null, []) :: []
def B4_choice_35 : List am_I := (35, .aload_n 0, 0, 0, .null, []) :: (36, .getfield 12, 4, 0, .null, []) :: (39, .iload_n 1, 0, 0, .null, []) :: (40, .invokevirtual 53, 55, 1, .ref 3, []) :: (43, .aload_n 0, 0, 0, .null, []) :: (44, .getfield 12, 4, 0, .null, []) :: (47, .iload_n 2, 0, 0, .null, []) :: (48, .invokevirtual 53, 55, 1, .ref 3, []) :: (51, .aload_n 0, 0, 0, .null, []) :: (52, .getfield 12, 4, 0, .null, []) :: (55, .iload_n 3, 0, 0, .null, []) :: (56, .invokevirtual 53, 55, 1, .ref 3, []) :: (59, .invokestatic 61, 0, 0, .null, []) :: (62, .invokestatic 61, 0, 0, .null, []) :: (65, .istore 4, 0, 0, .null, []) :: (67, .aload_n 0, 0, 0, .null, []) :: (68, .getfield 12, 4, 0, .null, []) :: (71, .iconst 3, 0, 0, .int 3, []) :: (72, .iconst 1, 0, 0, .int 1, []) :: (73, .iload 4, 0, 0, .null, []) :: (75, .iadd, 0, 0, .null, []) :: (76, .iload_n 1, 0, 0, .null, []) :: (77, .iload_n 2, 0, 0, .null, []) :: (78, .iload_n 3, 0, 0, .null, []) :: B4_choice_79
def B4_choice_33 : List am_I := (33, .iconst (-1), 0, 0, .int (-1), []) :: (34, .ireturn, 0, 0, .null, []) :: B4_choice_35
def B4_choice_0 : List am_I := (0, .aload_n 0, 0, 0, .null, []) :: (1, .getfield 12, 4, 0, .null, []) :: (4, .iload_n 1, 0, 0, .null, []) :: (5, .invokevirtual 50, 53, 1, .ref 3, []) :: (8, .ifCond .eq 25, 33, 0, .null, []) :: (11, .aload_n 0, 0, 0, .null, []) :: (12, .getfield 12, 4, 0, .null, []) :: (15, .iload_n 2, 0, 0, .null, []) :: (16, .invokevirtual 50, 53, 1, .ref 3, []) :: (19, .ifCond .eq 14, 33, 0, .null, []) :: (22, .aload_n 0, 0, 0, .null, []) :: (23, .getfield 12, 4, 0, .null, []) :: (26, .iload_n 3, 0, 0, .null, []) :: (27, .invokevirtual 50, 53, 1, .ref 3, []) :: (30, .ifCond .ne 5, 35, 0, .null, []) :: B4_choice_33
set_option maxRecDepth 20000 in
theorem vB4_choice_79 : am_vl 4 false (some .int) cX4_choice B4_choice_79 = true := am_vt (tl := []) 2 0 (by decide +kernel) rfl rfl rfl
set_option maxRecDepth 20000 in
theorem vB4_choice_35 : am_vl 4 false (some .int) cX4_choice B4_choice_35 = true := am_vt (tl := B4_choice_79) 24 79 (by decide +kernel) rfl rfl vB4_choice_79
set_option maxRecDepth 20000 in
theorem vB4_choice_33 : am_vl 4 false (some .int) cX4_choice B4_choice_33 = true := am_vt (tl := B4_choice_35) 2 35 (by decide +kernel) rfl rfl vB4_choice_35
set_option maxRecDepth 20000 in
theorem vB4_choice_0 : am_vl 4 false (some .int) cX4_choice B4_choice_0 = true := am_vt (tl := B4_choice_33) 15 33 (by decide +kernel) rfl rfl vB4_choice_33
def B4_box_27 : List am_I := (27, .ireturn, 0, 0, .null, []) :: []
def B4_box_26 : List am_I := (26, .iconst (-1), 0, 0, .int (-1), []) :: B4_box_27
def B4_box_0 : List am_I := (0, .aload_n 0, 0, 0, .null, []) :: (1, .getfield 12, 4, 0, .null, []) :: (4, .iload_n 1, 0, 0, .null, []) :: (5, .invokevirtual 50, 53, 1, .ref 3, []) :: (8, .ifCond .eq 18, 26, 0, .null, []) :: (11, .aload_n 0, 0, 0, .null, []) :: (12, .getfield 12, 4, 0, .null, []) :: (15, .iconst 4, 0, 0, .int 4, []) :: (16, .iconst 1, 0, 0, .int 1, []) :: (17, .iload_n 1, 0, 0, .null, []) :: (18, .iconst (-1), 0, 0, .int (-1), []) :: (19, .iconst (-1), 0, 0, .int (-1), []) :: (20, .invokevirtual 57, 49, 5, .ref 3, []) :: (23, .goto 4, 27, 0, .null, []) :: B4_box_26
set_option maxRecDepth 20000 in
theorem vB4_box_27 : am_vl 4 false (some .int) cX4_box B4_box_27 = true := am_vt (tl := []) 1 0 (by decide +kernel) rfl rfl rfl
set_option maxRecDepth 20000 in
theorem vB4_box_26 : am_vl 4 false (some .int) cX4_box B4_box_26 = true := am_vt (tl := B4_box_27) 1 27 (by decide +kernel) rfl rfl vB4_box_27
set_option maxRecDepth 20000 in
theorem vB4_box_0 : am_vl 4 false (some .int) cX4_box B4_box_0 = true := am_vt (tl := B4_box_26) 14 26 (by decide +kernel) rfl rfl vB4_box_26
def B4_tie_17 : List am_I := (17, .ireturn, 0, 0, .null, []) :: []
def B4_tie_16 : List am_I := (16, .iconst (-1), 0, 0, .int (-1), []) :: B4_tie_17
def B4_tie_0 : List am_I := (0, .aload_n 0, 0, 0, .null, []) :: (1, .getfield 12, 4, 0, .null, []) :: (4, .iload_n 1, 0, 0, .null, []) :: (5, .iload_n 2, 0, 0, .null, []) :: (6, .invokevirtual 67, 50, 2, .ref 3, []) :: (9, .ifCond .eq 7, 16, 0, .null, []) :: (12, .iconst 1, 0, 0, .int 1, []) :: (13, .goto 4, 17, 0, .null, []) :: B4_tie_16
set_option maxRecDepth 20000 in
theorem vB4_tie_17 : am_vl 4 false (some .int) cX4_tie B4_tie_17 = true := am_vt (tl := []) 1 0 (by decide +kernel) rfl rfl rfl
set_option maxRecDepth 20000 in
theorem vB4_tie_16 : am_vl 4 false (some .int) cX4_tie B4_tie_16 = true := am_vt (tl := B4_tie_17) 1 17 (by decide +kernel) rfl rfl vB4_tie_17
set_option maxRecDepth 20000 in
theorem vB4_tie_0 : am_vl 4 false (some .int) cX4_tie B4_tie_0 = true := am_vt (tl := B4_tie_16) 8 16 (by decide +kernel) rfl rfl vB4_tie_16
def B4_row_27 : List am_I := (27, .ireturn, 0, 0, .null, []) :: []
def B4_row_26 : List am_I := (26, .iconst (-1), 0, 0, .int (-1), []) :: B4_row_27
def B4_row_0 : List am_I := (0, .aload_n 0, 0, 0, .null, []) :: (1, .getfield 12, 4, 0, .null, []) :: (4, .iload_n 1, 0, 0, .null, []) :: (5, .invokevirtual 46, 52, 1, .ref 3, []) :: (8, .ifCond .eq 18, 26, 0, .null, []) :: (11, .aload_n 0, 0, 0, .null, []) :: (12, .getfield 12, 4, 0, .null, []) :: (15, .iconst 5, 0, 0, .int 5, []) :: (16, .iconst 1, 0, 0, .int 1, []) :: (17, .iload_n 1, 0, 0, .null, []) :: (18, .iconst (-1), 0, 0, .int (-1), []) :: (19, .iconst (-1), 0, 0, .int (-1), []) :: (20, .invokevirtual 57, 49, 5, .ref 3, []) :: (23, .goto 4, 27, 0, .null, []) :: B4_row_26
set_option maxRecDepth 20000 in
theorem vB4_row_27 : am_vl 4 false (some .int) cX4_row B4_row_27 = true := am_vt (tl := []) 1 0 (by decide +kernel) rfl rfl rfl
set_option maxRecDepth 20000 in
theorem vB4_row_26 : am_vl 4 false (some .int) cX4_row B4_row_26 = true := am_vt (tl := B4_row_27) 1 27 (by decide +kernel) rfl rfl vB4_row_27
set_option maxRecDepth 20000 in
theorem vB4_row_0 : am_vl 4 false (some .int) cX4_row B4_row_0 = true := am_vt (tl := B4_row_26) 14 26 (by decide +kernel) rfl rfl vB4_row_26
def B4_about_40 : List am_I := (40, .aload_n 0, 0, 0, .null, []) :: (41, .getfield 12, 4, 0, .null, []) :: (44, .iload_n 1, 0, 0, .null, []) :: (45, .iload_n 2, 0, 0, .null, []) :: (46, .iconst 2, 0, 0, .int 2, []) :: (47, .isub, 0, 0, .null, []) :: (48, .invokevirtual 74, 56, 2, .ref 3, []) :: (51, .ireturn, 0, 0, .null, []) :: []
def B4_about_26 : List am_I := (26, .iload_n 2, 0, 0, .null, []) :: (27, .iconst 1, 0, 0, .int 1, []) :: (28, .if_icmp .ne 12, 40, 0, .null, []) :: (31, .aload_n 0, 0, 0, .null, []) :: (32, .getfield 12, 4, 0, .null, []) :: (35, .iload_n 1, 0, 0, .null, []) :: (36, .invokevirtual 53, 55, 1, .ref 3, []) :: (39, .ireturn, 0, 0, .null, []) :: B4_about_40
def B4_about_13 : List am_I := (13, .iload_n 2, 0, 0, .null, []) :: (14, .ifCond .ne 12, 26, 0, .null, []) :: (17, .aload_n 0, 0, 0, .null, []) :: (18, .getfield 12, 4, 0, .null, []) :: (21, .iload_n 1, 0, 0, .null, []) :: (22, .invokevirtual 71, 54, 1, .ref 3, []) :: (25, .ireturn, 0, 0, .null, []) :: B4_about_26
def B4_about_0 : List am_I := (0, .aload_n 0, 0, 0, .null, []) :: (1, .getfield 12, 4, 0, .null, []) :: (4, .iload_n 1, 0, 0, .null, []) :: (5, .invokevirtual 46, 52, 1, .ref 3, []) :: (8, .ifCond .ne 5, 13, 0, .null, []) :: (11, .iconst (-1), 0, 0, .int (-1), []) :: (12, .ireturn, 0, 0, .null, []) :: B4_about_13
set_option maxRecDepth 20000 in
theorem vB4_about_40 : am_vl 4 false (some .int) cX4_about B4_about_40 = true := am_vt (tl := []) 8 0 (by decide +kernel) rfl rfl rfl
set_option maxRecDepth 20000 in
theorem vB4_about_26 : am_vl 4 false (some .int) cX4_about B4_about_26 = true := am_vt (tl := B4_about_40) 8 40 (by decide +kernel) rfl rfl vB4_about_40
set_option maxRecDepth 20000 in
theorem vB4_about_13 : am_vl 4 false (some .int) cX4_about B4_about_13 = true := am_vt (tl := B4_about_26) 7 26 (by decide +kernel) rfl rfl vB4_about_26
set_option maxRecDepth 20000 in
theorem vB4_about_0 : am_vl 4 false (some .int) cX4_about B4_about_0 = true := am_vt (tl := B4_about_13) 7 13 (by decide +kernel) rfl rfl vB4_about_13
def B4_number_0 : List am_I := (0, .aload_n 0, 0, 0, .null, []) :: (1, .iconst 0, 0, 0, .int 0, []) :: (2, .lload_n 1, 0, 0, .null, []) :: (3, .invokevirtual 77, 86, 2, .ref 4, []) :: (6, .ireturn, 0, 0, .null, []) :: []
set_option maxRecDepth 20000 in
theorem vB4_number_0 : am_vl 4 false (some .int) cX4_number B4_number_0 = true := am_vt (tl := []) 5 0 (by decide +kernel) rfl rfl rfl
def B4_make_59 : List am_I := (59, .iconst (-1), 0, 0, .int (-1), []) :: (60, .ireturn, 0, 0, .null, []) :: []
def B4_make_53 : List am_I := (53, .aload_n 0, 0, 0, .null, []) :: (54, .iload_n 1, 0, 0, .null, []) :: (55, .invokevirtual 87, 90, 1, .ref 4, []) :: (58, .ireturn, 0, 0, .null, []) :: B4_make_59
def B4_make_46 : List am_I := (46, .aload_n 0, 0, 0, .null, []) :: (47, .iload_n 1, 0, 0, .null, []) :: (48, .iload_n 2, 0, 0, .null, []) :: (49, .invokevirtual 84, 89, 2, .ref 4, []) :: (52, .ireturn, 0, 0, .null, []) :: B4_make_53
def B4_make_40 : List am_I := (40, .aload_n 0, 0, 0, .null, []) :: (41, .iload_n 1, 0, 0, .null, []) :: (42, .invokevirtual 81, 87, 1, .ref 4, []) :: (45, .ireturn, 0, 0, .null, []) :: B4_make_46
def B4_make_0 : List am_I := (0, .aload_n 0, 0, 0, .null, []) :: (1, .getfield 12, 4, 0, .null, []) :: (4, .iload_n 1, 0, 0, .null, []) :: (5, .invokevirtual 71, 54, 1, .ref 3, []) :: (8, .tableswitch 51 1 4 #[32, 32, 38, 45], 59, 0, .null, [(1, 40), (2, 40), (3, 46), (4, 53)]) :: B4_make_40
set_option maxRecDepth 20000 in
theorem vB4_make_59 : am_vl 4 false (some .int) cX4_make B4_make_59 = true := am_vt (tl := []) 2 0 (by decide +kernel) rfl rfl rfl
set_option maxRecDepth 20000 in
theorem vB4_make_53 : am_vl 4 false (some .int) cX4_make B4_make_53 = true := am_vt (tl := B4_make_59) 4 59 (by decide +kernel) rfl rfl vB4_make_59
set_option maxRecDepth 20000 in
theorem vB4_make_46 : am_vl 4 false (some .int) cX4_make B4_make_46 = true := am_vt (tl := B4_make_53) 5 53 (by decide +kernel) rfl rfl vB4_make_53
set_option maxRecDepth 20000 in
theorem vB4_make_40 : am_vl 4 false (some .int) cX4_make B4_make_40 = true := am_vt (tl := B4_make_46) 4 46 (by decide +kernel) rfl rfl vB4_make_46
set_option maxRecDepth 20000 in
theorem vB4_make_0 : am_vl 4 false (some .int) cX4_make B4_make_0 = true := am_vt (tl := B4_make_40) 5 40 (by decide +kernel) rfl rfl vB4_make_40
def B4_gather_119 : List am_I := (119, .aload_n 0, 0, 0, .null, []) :: (120, .getfield 19, 4, 1, .null, []) :: (123, .iload 4, 0, 0, .null, []) :: (125, .iload_n 3, 0, 0, .null, []) :: (126, .i2l, 0, 0, .null, []) :: (127, .invokevirtual 117, 30, 2, .ref 2, []) :: (130, .aload_n 0, 0, 0, .null, []) :: (131, .getfield 26, 4, 2, .null, []) :: (134, .iload_n 2, 0, 0, .null, []) :: (135, .invokevirtual 121, 23, 1, .ref 1, []) :: (138, .aload_n 0, 0, 0, .null, []) :: (139, .getfield 26, 4, 2, .null, []) :: (142, .iload_n 1, 0, 0, .null, []) :: (143, .invokevirtual 125, 22, 1, .ref 1, []) :: (146, .iconst 1, 0, 0, .int 1, []) :: (147, .ireturn, 0, 0, .null, []) :: []
def B4_gather_74 : List am_I := (74, .aload_n 0, 0, 0, .null, []) :: (75, .getfield 19, 4, 1, .null, []) :: (78, .iload_n 2, 0, 0, .null, []) :: (79, .invokevirtual 100, 37, 1, .ref 2, []) :: (82, .istore_n 3, 0, 0, .null, []) :: (83, .aload_n 0, 0, 0, .null, []) :: (84, .getfield 26, 4, 2, .null, []) :: (87, .invokevirtual 103, 16, 0, .ref 1, []) :: (90, .iload_n 2, 0, 0, .null, []) :: (91, .isub, 0, 0, .null, []) :: (92, .invokestatic 106, 94, 1, .int 0, []) :: (95, .istore 4, 0, 0, .null, []) :: (97, .aload_n 0, 0, 0, .null, []) :: (98, .getfield 19, 4, 1, .null, []) :: (101, .iload 4, 0, 0, .null, []) :: (103, .aload_n 0, 0, 0, .null, []) :: (104, .getfield 19, 4, 1, .null, []) :: (107, .iload_n 3, 0, 0, .null, []) :: (108, .i2l, 0, 0, .null, []) :: (109, .invokevirtual 109, 44, 1, .ref 2, []) :: (112, .iload_n 2, 0, 0, .null, []) :: (113, .bipush 8, 0, 0, .int 8, []) :: (115, .imul, 0, 0, .null, []) :: (116, .invokevirtual 113, 31, 3, .ref 2, []) :: B4_gather_119
def B4_gather_71 : List am_I := (71, .bipush (-2), 0, 0, .int (-2), []) :: (73, .ireturn, 0, 0, .null, []) :: B4_gather_74
def B4_gather_46 : List am_I := (46, .aload_n 0, 0, 0, .null, []) :: (47, .getfield 26, 4, 2, .null, []) :: (50, .iconst 1, 0, 0, .int 1, []) :: (51, .iload_n 2, 0, 0, .null, []) :: (52, .isub, 0, 0, .null, []) :: (53, .invokevirtual 93, 18, 1, .ref 1, []) :: (56, .ifCond .eq 15, 71, 0, .null, []) :: (59, .aload_n 0, 0, 0, .null, []) :: (60, .getfield 19, 4, 1, .null, []) :: (63, .invokevirtual 96, 35, 0, .ref 2, []) :: (66, .bipush 20, 0, 0, .int 20, []) :: (68, .if_icmp .lt 6, 74, 0, .null, []) :: B4_gather_71
def B4_gather_24 : List am_I := (24, .aload_n 0, 0, 0, .null, []) :: (25, .getfield 26, 4, 2, .null, []) :: (28, .iload_n 2, 0, 0, .null, []) :: (29, .aload_n 0, 0, 0, .null, []) :: (30, .getfield 12, 4, 0, .null, []) :: (33, .iload_n 1, 0, 0, .null, []) :: (34, .iconst 0, 0, 0, .int 0, []) :: (35, .invokevirtual 74, 56, 2, .ref 3, []) :: (38, .invokevirtual 90, 21, 2, .ref 1, []) :: (41, .ifCond .ne 5, 46, 0, .null, []) :: (44, .iconst (-1), 0, 0, .int (-1), []) :: (45, .ireturn, 0, 0, .null, []) :: B4_gather_46
def B4_gather_22 : List am_I := (22, .iconst (-1), 0, 0, .int (-1), []) :: (23, .ireturn, 0, 0, .null, []) :: B4_gather_24
def B4_gather_0 : List am_I := (0, .aload_n 0, 0, 0, .null, []) :: (1, .getfield 12, 4, 0, .null, []) :: (4, .iload_n 1, 0, 0, .null, []) :: (5, .invokevirtual 71, 54, 1, .ref 3, []) :: (8, .iconst 5, 0, 0, .int 5, []) :: (9, .if_icmp .ne 13, 22, 0, .null, []) :: (12, .iload_n 2, 0, 0, .null, []) :: (13, .ifCond .lt 9, 22, 0, .null, []) :: (16, .iload_n 2, 0, 0, .null, []) :: (17, .bipush 8, 0, 0, .int 8, []) :: (19, .if_icmp .le 5, 24, 0, .null, []) :: B4_gather_22
set_option maxRecDepth 20000 in
theorem vB4_gather_119 : am_vl 4 false (some .int) cX4_gather B4_gather_119 = true := am_vt (tl := []) 16 0 (by decide +kernel) rfl rfl rfl
set_option maxRecDepth 20000 in
theorem vB4_gather_74 : am_vl 4 false (some .int) cX4_gather B4_gather_74 = true := am_vt (tl := B4_gather_119) 24 119 (by decide +kernel) rfl rfl vB4_gather_119
set_option maxRecDepth 20000 in
theorem vB4_gather_71 : am_vl 4 false (some .int) cX4_gather B4_gather_71 = true := am_vt (tl := B4_gather_74) 2 74 (by decide +kernel) rfl rfl vB4_gather_74
set_option maxRecDepth 20000 in
theorem vB4_gather_46 : am_vl 4 false (some .int) cX4_gather B4_gather_46 = true := am_vt (tl := B4_gather_71) 12 71 (by decide +kernel) rfl rfl vB4_gather_71
set_option maxRecDepth 20000 in
theorem vB4_gather_24 : am_vl 4 false (some .int) cX4_gather B4_gather_24 = true := am_vt (tl := B4_gather_46) 12 46 (by decide +kernel) rfl rfl vB4_gather_46
set_option maxRecDepth 20000 in
theorem vB4_gather_22 : am_vl 4 false (some .int) cX4_gather B4_gather_22 = true := am_vt (tl := B4_gather_24) 2 24 (by decide +kernel) rfl rfl vB4_gather_24
set_option maxRecDepth 20000 in
theorem vB4_gather_0 : am_vl 4 false (some .int) cX4_gather B4_gather_0 = true := am_vt (tl := B4_gather_22) 11 22 (by decide +kernel) rfl rfl vB4_gather_22
def B4_open_68 : List am_I := (68, .invokevirtual 113, 31, 3, .ref 2, []) :: (71, .aload_n 0, 0, 0, .null, []) :: (72, .getfield 19, 4, 1, .null, []) :: (75, .lload_n 3, 0, 0, .null, []) :: (76, .invokevirtual 141, 39, 1, .ref 2, []) :: (79, .aload_n 0, 0, 0, .null, []) :: (80, .iload_n 2, 0, 0, .null, []) :: (81, .invokevirtual 145, 93, 1, .ref 4, []) :: (84, .iconst 1, 0, 0, .int 1, []) :: (85, .ireturn, 0, 0, .null, []) :: []
def B4_open_22 : List am_I := (22, .aload_n 0, 0, 0, .null, []) :: (23, .getfield 12, 4, 0, .null, []) :: (26, .iload_n 1, 0, 0, .null, []) :: (27, .iconst 0, 0, 0, .int 0, []) :: (28, .invokevirtual 74, 56, 2, .ref 3, []) :: (31, .istore_n 2, 0, 0, .null, []) :: (32, .aload_n 0, 0, 0, .null, []) :: (33, .getfield 19, 4, 1, .null, []) :: (36, .aload_n 0, 0, 0, .null, []) :: (37, .invokevirtual 131, 97, 0, .ref 4, []) :: (40, .invokevirtual 134, 29, 1, .ref 2, []) :: (43, .lstore_n 3, 0, 0, .null, []) :: (44, .aload_n 0, 0, 0, .null, []) :: (45, .getfield 19, 4, 1, .null, []) :: (48, .aload_n 0, 0, 0, .null, []) :: (49, .getfield 19, 4, 1, .null, []) :: (52, .lload_n 3, 0, 0, .null, []) :: (53, .invokevirtual 138, 43, 1, .ref 2, []) :: (56, .aload_n 0, 0, 0, .null, []) :: (57, .invokevirtual 131, 97, 0, .ref 4, []) :: (60, .aload_n 0, 0, 0, .null, []) :: (61, .getfield 12, 4, 0, .null, []) :: (64, .iload_n 2, 0, 0, .null, []) :: (65, .invokevirtual 53, 55, 1, .ref 3, []) :: B4_open_68
def B4_open_0 : List am_I := (0, .aload_n 0, 0, 0, .null, []) :: (1, .getfield 26, 4, 2, .null, []) :: (4, .invokevirtual 128, 20, 0, .ref 1, []) :: (7, .istore_n 1, 0, 0, .null, []) :: (8, .aload_n 0, 0, 0, .null, []) :: (9, .getfield 12, 4, 0, .null, []) :: (12, .iload_n 1, 0, 0, .null, []) :: (13, .invokevirtual 71, 54, 1, .ref 3, []) :: (16, .iconst 4, 0, 0, .int 4, []) :: (17, .if_icmp .eq 5, 22, 0, .null, []) :: (20, .iconst (-1), 0, 0, .int (-1), []) :: (21, .ireturn, 0, 0, .null, []) :: B4_open_22
set_option maxRecDepth 20000 in
theorem vB4_open_68 : am_vl 4 false (some .int) cX4_open B4_open_68 = true := am_vt (tl := []) 10 0 (by decide +kernel) rfl rfl rfl
set_option maxRecDepth 20000 in
theorem vB4_open_22 : am_vl 4 false (some .int) cX4_open B4_open_22 = true := am_vt (tl := B4_open_68) 24 68 (by decide +kernel) rfl rfl vB4_open_68
set_option maxRecDepth 20000 in
theorem vB4_open_0 : am_vl 4 false (some .int) cX4_open B4_open_0 = true := am_vt (tl := B4_open_22) 12 22 (by decide +kernel) rfl rfl vB4_open_22
def B4_apart_56 : List am_I := (56, .iconst (-1), 0, 0, .int (-1), []) :: (57, .ireturn, 0, 0, .null, []) :: []
def B4_apart_50 : List am_I := (50, .aload_n 0, 0, 0, .null, []) :: (51, .iload_n 1, 0, 0, .null, []) :: (52, .invokevirtual 151, 92, 1, .ref 4, []) :: (55, .ireturn, 0, 0, .null, []) :: B4_apart_56
def B4_apart_44 : List am_I := (44, .aload_n 0, 0, 0, .null, []) :: (45, .iload_n 1, 0, 0, .null, []) :: (46, .invokevirtual 148, 91, 1, .ref 4, []) :: (49, .ireturn, 0, 0, .null, []) :: B4_apart_50
def B4_apart_0 : List am_I := (0, .aload_n 0, 0, 0, .null, []) :: (1, .getfield 26, 4, 2, .null, []) :: (4, .invokevirtual 128, 20, 0, .ref 1, []) :: (7, .istore_n 1, 0, 0, .null, []) :: (8, .aload_n 0, 0, 0, .null, []) :: (9, .getfield 12, 4, 0, .null, []) :: (12, .iload_n 1, 0, 0, .null, []) :: (13, .invokevirtual 71, 54, 1, .ref 3, []) :: (16, .lookupswitch 40 #[(1, 28), (3, 34)], 56, 0, .null, [(1, 44), (3, 50)]) :: B4_apart_44
set_option maxRecDepth 20000 in
theorem vB4_apart_56 : am_vl 4 false (some .int) cX4_apart B4_apart_56 = true := am_vt (tl := []) 2 0 (by decide +kernel) rfl rfl rfl
set_option maxRecDepth 20000 in
theorem vB4_apart_50 : am_vl 4 false (some .int) cX4_apart B4_apart_50 = true := am_vt (tl := B4_apart_56) 4 56 (by decide +kernel) rfl rfl vB4_apart_56
set_option maxRecDepth 20000 in
theorem vB4_apart_44 : am_vl 4 false (some .int) cX4_apart B4_apart_44 = true := am_vt (tl := B4_apart_50) 4 50 (by decide +kernel) rfl rfl vB4_apart_50
set_option maxRecDepth 20000 in
theorem vB4_apart_0 : am_vl 4 false (some .int) cX4_apart B4_apart_0 = true := am_vt (tl := B4_apart_44) 9 44 (by decide +kernel) rfl rfl vB4_apart_44
def B4_drop_15 : List am_I := (15, .aload_n 0, 0, 0, .null, []) :: (16, .getfield 35, 4, 3, .null, []) :: (19, .iload_n 1, 0, 0, .null, []) :: (20, .aload_n 0, 0, 0, .null, []) :: (21, .invokevirtual 131, 97, 0, .ref 4, []) :: (24, .invokevirtual 154, 4, 2, .ref 0, []) :: (27, .aload_n 0, 0, 0, .null, []) :: (28, .getfield 26, 4, 2, .null, []) :: (31, .iconst 1, 0, 0, .int 1, []) :: (32, .invokevirtual 121, 23, 1, .ref 1, []) :: (35, .iconst 1, 0, 0, .int 1, []) :: (36, .ireturn, 0, 0, .null, []) :: []
def B4_drop_0 : List am_I := (0, .aload_n 0, 0, 0, .null, []) :: (1, .getfield 26, 4, 2, .null, []) :: (4, .invokevirtual 128, 20, 0, .ref 1, []) :: (7, .istore_n 1, 0, 0, .null, []) :: (8, .iload_n 1, 0, 0, .null, []) :: (9, .iconst (-1), 0, 0, .int (-1), []) :: (10, .if_icmp .ne 5, 15, 0, .null, []) :: (13, .iconst (-1), 0, 0, .int (-1), []) :: (14, .ireturn, 0, 0, .null, []) :: B4_drop_15
set_option maxRecDepth 20000 in
theorem vB4_drop_15 : am_vl 4 false (some .int) cX4_drop B4_drop_15 = true := am_vt (tl := []) 12 0 (by decide +kernel) rfl rfl rfl
set_option maxRecDepth 20000 in
theorem vB4_drop_0 : am_vl 4 false (some .int) cX4_drop B4_drop_0 = true := am_vt (tl := B4_drop_15) 9 15 (by decide +kernel) rfl rfl vB4_drop_15
def B4_store_68 : List am_I := (68, .iload_n 2, 0, 0, .null, []) :: (69, .invokevirtual 53, 55, 1, .ref 3, []) :: (72, .invokevirtual 113, 31, 3, .ref 2, []) :: (75, .aload_n 0, 0, 0, .null, []) :: (76, .getfield 26, 4, 2, .null, []) :: (79, .iload_n 3, 0, 0, .null, []) :: (80, .iload_n 1, 0, 0, .null, []) :: (81, .iload_n 2, 0, 0, .null, []) :: (82, .invokevirtual 170, 25, 3, .ref 1, []) :: (85, .aload_n 0, 0, 0, .null, []) :: (86, .getfield 26, 4, 2, .null, []) :: (89, .iconst 1, 0, 0, .int 1, []) :: (90, .invokevirtual 121, 23, 1, .ref 1, []) :: (93, .iconst 1, 0, 0, .int 1, []) :: (94, .ireturn, 0, 0, .null, []) :: []
def B4_store_22 : List am_I := (22, .aload_n 0, 0, 0, .null, []) :: (23, .getfield 26, 4, 2, .null, []) :: (26, .invokevirtual 161, 13, 0, .ref 1, []) :: (29, .istore_n 3, 0, 0, .null, []) :: (30, .aload_n 0, 0, 0, .null, []) :: (31, .getfield 35, 4, 3, .null, []) :: (34, .aload_n 0, 0, 0, .null, []) :: (35, .getfield 26, 4, 2, .null, []) :: (38, .iload_n 3, 0, 0, .null, []) :: (39, .iload_n 1, 0, 0, .null, []) :: (40, .invokevirtual 164, 24, 2, .ref 1, []) :: (43, .iload_n 3, 0, 0, .null, []) :: (44, .iload_n 1, 0, 0, .null, []) :: (45, .invokestatic 167, 95, 2, .int 0, []) :: (48, .invokevirtual 154, 4, 2, .ref 0, []) :: (51, .aload_n 0, 0, 0, .null, []) :: (52, .getfield 19, 4, 1, .null, []) :: (55, .aload_n 0, 0, 0, .null, []) :: (56, .invokevirtual 131, 97, 0, .ref 4, []) :: (59, .iload_n 3, 0, 0, .null, []) :: (60, .iload_n 1, 0, 0, .null, []) :: (61, .invokestatic 167, 95, 2, .int 0, []) :: (64, .aload_n 0, 0, 0, .null, []) :: (65, .getfield 12, 4, 0, .null, []) :: B4_store_68
def B4_store_20 : List am_I := (20, .iconst (-1), 0, 0, .int (-1), []) :: (21, .ireturn, 0, 0, .null, []) :: B4_store_22
def B4_store_0 : List am_I := (0, .aload_n 0, 0, 0, .null, []) :: (1, .getfield 26, 4, 2, .null, []) :: (4, .invokevirtual 128, 20, 0, .ref 1, []) :: (7, .istore_n 2, 0, 0, .null, []) :: (8, .iload_n 1, 0, 0, .null, []) :: (9, .invokestatic 158, 96, 1, .int 0, []) :: (12, .ifCond .eq 8, 20, 0, .null, []) :: (15, .iload_n 2, 0, 0, .null, []) :: (16, .iconst (-1), 0, 0, .int (-1), []) :: (17, .if_icmp .ne 5, 22, 0, .null, []) :: B4_store_20
set_option maxRecDepth 20000 in
theorem vB4_store_68 : am_vl 4 false (some .int) cX4_store B4_store_68 = true := am_vt (tl := []) 15 0 (by decide +kernel) rfl rfl rfl
set_option maxRecDepth 20000 in
theorem vB4_store_22 : am_vl 4 false (some .int) cX4_store B4_store_22 = true := am_vt (tl := B4_store_68) 24 68 (by decide +kernel) rfl rfl vB4_store_68
set_option maxRecDepth 20000 in
theorem vB4_store_20 : am_vl 4 false (some .int) cX4_store B4_store_20 = true := am_vt (tl := B4_store_22) 2 22 (by decide +kernel) rfl rfl vB4_store_22
set_option maxRecDepth 20000 in
theorem vB4_store_0 : am_vl 4 false (some .int) cX4_store B4_store_0 = true := am_vt (tl := B4_store_20) 10 20 (by decide +kernel) rfl rfl vB4_store_20
def B4_load_39 : List am_I := (39, .aload_n 0, 0, 0, .null, []) :: (40, .getfield 26, 4, 2, .null, []) :: (43, .iload_n 3, 0, 0, .null, []) :: (44, .invokevirtual 125, 22, 1, .ref 1, []) :: (47, .aload_n 0, 0, 0, .null, []) :: (48, .getfield 19, 4, 1, .null, []) :: (51, .iload_n 2, 0, 0, .null, []) :: (52, .iload_n 1, 0, 0, .null, []) :: (53, .invokestatic 167, 95, 2, .int 0, []) :: (56, .aload_n 0, 0, 0, .null, []) :: (57, .invokevirtual 131, 97, 0, .ref 4, []) :: (60, .aload_n 0, 0, 0, .null, []) :: (61, .getfield 12, 4, 0, .null, []) :: (64, .iload_n 3, 0, 0, .null, []) :: (65, .invokevirtual 53, 55, 1, .ref 3, []) :: (68, .invokevirtual 113, 31, 3, .ref 2, []) :: (71, .aload_n 0, 0, 0, .null, []) :: (72, .getfield 26, 4, 2, .null, []) :: (75, .iload_n 2, 0, 0, .null, []) :: (76, .iload_n 1, 0, 0, .null, []) :: (77, .iconst (-1), 0, 0, .int (-1), []) :: (78, .invokevirtual 170, 25, 3, .ref 1, []) :: (81, .iconst 1, 0, 0, .int 1, []) :: (82, .ireturn, 0, 0, .null, []) :: []
def B4_load_25 : List am_I := (25, .aload_n 0, 0, 0, .null, []) :: (26, .getfield 26, 4, 2, .null, []) :: (29, .iconst 1, 0, 0, .int 1, []) :: (30, .invokevirtual 93, 18, 1, .ref 1, []) :: (33, .ifCond .ne 6, 39, 0, .null, []) :: (36, .bipush (-2), 0, 0, .int (-2), []) :: (38, .ireturn, 0, 0, .null, []) :: B4_load_39
def B4_load_0 : List am_I := (0, .aload_n 0, 0, 0, .null, []) :: (1, .getfield 26, 4, 2, .null, []) :: (4, .invokevirtual 161, 13, 0, .ref 1, []) :: (7, .istore_n 2, 0, 0, .null, []) :: (8, .aload_n 0, 0, 0, .null, []) :: (9, .getfield 26, 4, 2, .null, []) :: (12, .iload_n 2, 0, 0, .null, []) :: (13, .iload_n 1, 0, 0, .null, []) :: (14, .invokevirtual 164, 24, 2, .ref 1, []) :: (17, .istore_n 3, 0, 0, .null, []) :: (18, .iload_n 3, 0, 0, .null, []) :: (19, .iconst (-1), 0, 0, .int (-1), []) :: (20, .if_icmp .ne 5, 25, 0, .null, []) :: (23, .iconst (-1), 0, 0, .int (-1), []) :: (24, .ireturn, 0, 0, .null, []) :: B4_load_25
set_option maxRecDepth 20000 in
theorem vB4_load_39 : am_vl 4 false (some .int) cX4_load B4_load_39 = true := am_vt (tl := []) 24 0 (by decide +kernel) rfl rfl rfl
set_option maxRecDepth 20000 in
theorem vB4_load_25 : am_vl 4 false (some .int) cX4_load B4_load_25 = true := am_vt (tl := B4_load_39) 7 39 (by decide +kernel) rfl rfl vB4_load_39
set_option maxRecDepth 20000 in
theorem vB4_load_0 : am_vl 4 false (some .int) cX4_load B4_load_0 = true := am_vt (tl := B4_load_25) 15 25 (by decide +kernel) rfl rfl vB4_load_25
def B4_set_25 : List am_I := (25, .aload_n 0, 0, 0, .null, []) :: (26, .getfield 35, 4, 3, .null, []) :: (29, .iload_n 3, 0, 0, .null, []) :: (30, .aload_n 0, 0, 0, .null, []) :: (31, .getfield 43, 4, 5, .null, []) :: (34, .invokevirtual 154, 4, 2, .ref 0, []) :: (37, .aload_n 0, 0, 0, .null, []) :: (38, .getfield 19, 4, 1, .null, []) :: (41, .aload_n 0, 0, 0, .null, []) :: (42, .invokevirtual 131, 97, 0, .ref 4, []) :: (45, .aload_n 0, 0, 0, .null, []) :: (46, .getfield 43, 4, 5, .null, []) :: (49, .aload_n 0, 0, 0, .null, []) :: (50, .getfield 12, 4, 0, .null, []) :: (53, .iload_n 3, 0, 0, .null, []) :: (54, .invokevirtual 53, 55, 1, .ref 3, []) :: (57, .invokevirtual 113, 31, 3, .ref 2, []) :: (60, .aload_n 0, 0, 0, .null, []) :: (61, .getfield 26, 4, 2, .null, []) :: (64, .iconst 1, 0, 0, .int 1, []) :: (65, .invokevirtual 121, 23, 1, .ref 1, []) :: (68, .iconst 1, 0, 0, .int 1, []) :: (69, .ireturn, 0, 0, .null, []) :: []
def B4_set_23 : List am_I := (23, .iconst (-1), 0, 0, .int (-1), []) :: (24, .ireturn, 0, 0, .null, []) :: B4_set_25
def B4_set_0 : List am_I := (0, .aload_n 0, 0, 0, .null, []) :: (1, .iload_n 1, 0, 0, .null, []) :: (2, .iload_n 2, 0, 0, .null, []) :: (3, .invokevirtual 173, 98, 2, .ref 4, []) :: (6, .istore_n 3, 0, 0, .null, []) :: (7, .iload_n 3, 0, 0, .null, []) :: (8, .iconst (-1), 0, 0, .int (-1), []) :: (9, .if_icmp .eq 14, 23, 0, .null, []) :: (12, .iload_n 3, 0, 0, .null, []) :: (13, .aload_n 0, 0, 0, .null, []) :: (14, .getfield 26, 4, 2, .null, []) :: (17, .invokevirtual 128, 20, 0, .ref 1, []) :: (20, .if_icmp .eq 5, 25, 0, .null, []) :: B4_set_23
set_option maxRecDepth 20000 in
theorem vB4_set_25 : am_vl 4 false (some .int) cX4_set B4_set_25 = true := am_vt (tl := []) 23 0 (by decide +kernel) rfl rfl rfl
set_option maxRecDepth 20000 in
theorem vB4_set_23 : am_vl 4 false (some .int) cX4_set B4_set_23 = true := am_vt (tl := B4_set_25) 2 25 (by decide +kernel) rfl rfl vB4_set_25
set_option maxRecDepth 20000 in
theorem vB4_set_0 : am_vl 4 false (some .int) cX4_set B4_set_0 = true := am_vt (tl := B4_set_23) 13 23 (by decide +kernel) rfl rfl vB4_set_23
def B4_swap_25 : List am_I := (25, .aload_n 0, 0, 0, .null, []) :: (26, .getfield 19, 4, 1, .null, []) :: (29, .aload_n 0, 0, 0, .null, []) :: (30, .invokevirtual 131, 97, 0, .ref 4, []) :: (33, .aload_n 0, 0, 0, .null, []) :: (34, .getfield 43, 4, 5, .null, []) :: (37, .aload_n 0, 0, 0, .null, []) :: (38, .getfield 12, 4, 0, .null, []) :: (41, .iload_n 3, 0, 0, .null, []) :: (42, .invokevirtual 53, 55, 1, .ref 3, []) :: (45, .invokevirtual 176, 32, 3, .ref 2, []) :: (48, .iconst 1, 0, 0, .int 1, []) :: (49, .ireturn, 0, 0, .null, []) :: []
def B4_swap_23 : List am_I := (23, .iconst (-1), 0, 0, .int (-1), []) :: (24, .ireturn, 0, 0, .null, []) :: B4_swap_25
def B4_swap_0 : List am_I := (0, .aload_n 0, 0, 0, .null, []) :: (1, .iload_n 1, 0, 0, .null, []) :: (2, .iload_n 2, 0, 0, .null, []) :: (3, .invokevirtual 173, 98, 2, .ref 4, []) :: (6, .istore_n 3, 0, 0, .null, []) :: (7, .iload_n 3, 0, 0, .null, []) :: (8, .iconst (-1), 0, 0, .int (-1), []) :: (9, .if_icmp .eq 14, 23, 0, .null, []) :: (12, .iload_n 3, 0, 0, .null, []) :: (13, .aload_n 0, 0, 0, .null, []) :: (14, .getfield 26, 4, 2, .null, []) :: (17, .invokevirtual 128, 20, 0, .ref 1, []) :: (20, .if_icmp .eq 5, 25, 0, .null, []) :: B4_swap_23
set_option maxRecDepth 20000 in
theorem vB4_swap_25 : am_vl 4 false (some .int) cX4_swap B4_swap_25 = true := am_vt (tl := []) 13 0 (by decide +kernel) rfl rfl rfl
set_option maxRecDepth 20000 in
theorem vB4_swap_23 : am_vl 4 false (some .int) cX4_swap B4_swap_23 = true := am_vt (tl := B4_swap_25) 2 25 (by decide +kernel) rfl rfl vB4_swap_25
set_option maxRecDepth 20000 in
theorem vB4_swap_0 : am_vl 4 false (some .int) cX4_swap B4_swap_0 = true := am_vt (tl := B4_swap_23) 13 23 (by decide +kernel) rfl rfl vB4_swap_23
def B4_push_127 : List am_I := (127, .invokevirtual 121, 23, 1, .ref 1, []) :: (130, .iload 7, 0, 0, .null, []) :: (132, .iconst 1, 0, 0, .int 1, []) :: (133, .iadd, 0, 0, .null, []) :: (134, .ireturn, 0, 0, .null, []) :: []
def B4_push_78 : List am_I := (78, .aload_n 0, 0, 0, .null, []) :: (79, .getfield 19, 4, 1, .null, []) :: (82, .aload_n 0, 0, 0, .null, []) :: (83, .invokevirtual 131, 97, 0, .ref 4, []) :: (86, .aload_n 0, 0, 0, .null, []) :: (87, .getfield 19, 4, 1, .null, []) :: (90, .lload 5, 0, 0, .null, []) :: (92, .iload 7, 0, 0, .null, []) :: (94, .invokevirtual 182, 45, 2, .ref 2, []) :: (97, .aload_n 0, 0, 0, .null, []) :: (98, .getfield 12, 4, 0, .null, []) :: (101, .iload 4, 0, 0, .null, []) :: (103, .invokevirtual 53, 55, 1, .ref 3, []) :: (106, .invokevirtual 113, 31, 3, .ref 2, []) :: (109, .aload_n 0, 0, 0, .null, []) :: (110, .getfield 19, 4, 1, .null, []) :: (113, .lload 5, 0, 0, .null, []) :: (115, .iload 7, 0, 0, .null, []) :: (117, .iconst 1, 0, 0, .int 1, []) :: (118, .iadd, 0, 0, .null, []) :: (119, .invokevirtual 186, 47, 2, .ref 2, []) :: (122, .aload_n 0, 0, 0, .null, []) :: (123, .getfield 26, 4, 2, .null, []) :: (126, .iconst 1, 0, 0, .int 1, []) :: B4_push_127
def B4_push_44 : List am_I := (44, .aload_n 0, 0, 0, .null, []) :: (45, .getfield 19, 4, 1, .null, []) :: (48, .aload_n 0, 0, 0, .null, []) :: (49, .getfield 43, 4, 5, .null, []) :: (52, .invokevirtual 134, 29, 1, .ref 2, []) :: (55, .lstore 5, 0, 0, .null, []) :: (57, .aload_n 0, 0, 0, .null, []) :: (58, .getfield 19, 4, 1, .null, []) :: (61, .lload 5, 0, 0, .null, []) :: (63, .invokevirtual 179, 46, 1, .ref 2, []) :: (66, .istore 7, 0, 0, .null, []) :: (68, .iload 7, 0, 0, .null, []) :: (70, .bipush 8, 0, 0, .int 8, []) :: (72, .if_icmp .lt 6, 78, 0, .null, []) :: (75, .bipush (-2), 0, 0, .int (-2), []) :: (77, .ireturn, 0, 0, .null, []) :: B4_push_78
def B4_push_42 : List am_I := (42, .iconst (-1), 0, 0, .int (-1), []) :: (43, .ireturn, 0, 0, .null, []) :: B4_push_44
def B4_push_0 : List am_I := (0, .aload_n 0, 0, 0, .null, []) :: (1, .iload_n 1, 0, 0, .null, []) :: (2, .iload_n 2, 0, 0, .null, []) :: (3, .invokevirtual 173, 98, 2, .ref 4, []) :: (6, .istore_n 3, 0, 0, .null, []) :: (7, .aload_n 0, 0, 0, .null, []) :: (8, .getfield 12, 4, 0, .null, []) :: (11, .iload_n 3, 0, 0, .null, []) :: (12, .iconst 0, 0, 0, .int 0, []) :: (13, .invokevirtual 74, 56, 2, .ref 3, []) :: (16, .istore 4, 0, 0, .null, []) :: (18, .aload_n 0, 0, 0, .null, []) :: (19, .getfield 12, 4, 0, .null, []) :: (22, .iload_n 3, 0, 0, .null, []) :: (23, .invokevirtual 71, 54, 1, .ref 3, []) :: (26, .iconst 5, 0, 0, .int 5, []) :: (27, .if_icmp .ne 15, 42, 0, .null, []) :: (30, .iload 4, 0, 0, .null, []) :: (32, .aload_n 0, 0, 0, .null, []) :: (33, .getfield 26, 4, 2, .null, []) :: (36, .invokevirtual 128, 20, 0, .ref 1, []) :: (39, .if_icmp .eq 5, 44, 0, .null, []) :: B4_push_42
set_option maxRecDepth 20000 in
theorem vB4_push_127 : am_vl 4 false (some .int) cX4_push B4_push_127 = true := am_vt (tl := []) 5 0 (by decide +kernel) rfl rfl rfl
set_option maxRecDepth 20000 in
theorem vB4_push_78 : am_vl 4 false (some .int) cX4_push B4_push_78 = true := am_vt (tl := B4_push_127) 24 127 (by decide +kernel) rfl rfl vB4_push_127
set_option maxRecDepth 20000 in
theorem vB4_push_44 : am_vl 4 false (some .int) cX4_push B4_push_44 = true := am_vt (tl := B4_push_78) 16 78 (by decide +kernel) rfl rfl vB4_push_78
set_option maxRecDepth 20000 in
theorem vB4_push_42 : am_vl 4 false (some .int) cX4_push B4_push_42 = true := am_vt (tl := B4_push_44) 2 44 (by decide +kernel) rfl rfl vB4_push_44
set_option maxRecDepth 20000 in
theorem vB4_push_0 : am_vl 4 false (some .int) cX4_push B4_push_0 = true := am_vt (tl := B4_push_42) 22 42 (by decide +kernel) rfl rfl vB4_push_42
def B4_pop_132 : List am_I := (132, .ireturn, 0, 0, .null, []) :: []
def B4_pop_79 : List am_I := (79, .aload_n 0, 0, 0, .null, []) :: (80, .getfield 26, 4, 2, .null, []) :: (83, .iload 4, 0, 0, .null, []) :: (85, .invokevirtual 125, 22, 1, .ref 1, []) :: (88, .aload_n 0, 0, 0, .null, []) :: (89, .getfield 19, 4, 1, .null, []) :: (92, .aload_n 0, 0, 0, .null, []) :: (93, .getfield 19, 4, 1, .null, []) :: (96, .lload 5, 0, 0, .null, []) :: (98, .iload 7, 0, 0, .null, []) :: (100, .invokevirtual 182, 45, 2, .ref 2, []) :: (103, .aload_n 0, 0, 0, .null, []) :: (104, .invokevirtual 131, 97, 0, .ref 4, []) :: (107, .aload_n 0, 0, 0, .null, []) :: (108, .getfield 12, 4, 0, .null, []) :: (111, .iload 4, 0, 0, .null, []) :: (113, .invokevirtual 53, 55, 1, .ref 3, []) :: (116, .invokevirtual 113, 31, 3, .ref 2, []) :: (119, .aload_n 0, 0, 0, .null, []) :: (120, .getfield 19, 4, 1, .null, []) :: (123, .lload 5, 0, 0, .null, []) :: (125, .iload 7, 0, 0, .null, []) :: (127, .invokevirtual 186, 47, 2, .ref 2, []) :: (130, .iload 7, 0, 0, .null, []) :: B4_pop_132
def B4_pop_65 : List am_I := (65, .aload_n 0, 0, 0, .null, []) :: (66, .getfield 26, 4, 2, .null, []) :: (69, .iconst 1, 0, 0, .int 1, []) :: (70, .invokevirtual 93, 18, 1, .ref 1, []) :: (73, .ifCond .ne 6, 79, 0, .null, []) :: (76, .bipush (-2), 0, 0, .int (-2), []) :: (78, .ireturn, 0, 0, .null, []) :: B4_pop_79
def B4_pop_21 : List am_I := (21, .aload_n 0, 0, 0, .null, []) :: (22, .getfield 12, 4, 0, .null, []) :: (25, .iload_n 3, 0, 0, .null, []) :: (26, .iconst 0, 0, 0, .int 0, []) :: (27, .invokevirtual 74, 56, 2, .ref 3, []) :: (30, .istore 4, 0, 0, .null, []) :: (32, .aload_n 0, 0, 0, .null, []) :: (33, .getfield 19, 4, 1, .null, []) :: (36, .aload_n 0, 0, 0, .null, []) :: (37, .getfield 43, 4, 5, .null, []) :: (40, .invokevirtual 134, 29, 1, .ref 2, []) :: (43, .lstore 5, 0, 0, .null, []) :: (45, .aload_n 0, 0, 0, .null, []) :: (46, .getfield 19, 4, 1, .null, []) :: (49, .lload 5, 0, 0, .null, []) :: (51, .invokevirtual 179, 46, 1, .ref 2, []) :: (54, .iconst 1, 0, 0, .int 1, []) :: (55, .isub, 0, 0, .null, []) :: (56, .istore 7, 0, 0, .null, []) :: (58, .iload 7, 0, 0, .null, []) :: (60, .ifCond .ge 5, 65, 0, .null, []) :: (63, .iconst (-1), 0, 0, .int (-1), []) :: (64, .ireturn, 0, 0, .null, []) :: B4_pop_65
def B4_pop_0 : List am_I := (0, .aload_n 0, 0, 0, .null, []) :: (1, .iload_n 1, 0, 0, .null, []) :: (2, .iload_n 2, 0, 0, .null, []) :: (3, .invokevirtual 173, 98, 2, .ref 4, []) :: (6, .istore_n 3, 0, 0, .null, []) :: (7, .aload_n 0, 0, 0, .null, []) :: (8, .getfield 12, 4, 0, .null, []) :: (11, .iload_n 3, 0, 0, .null, []) :: (12, .invokevirtual 71, 54, 1, .ref 3, []) :: (15, .iconst 5, 0, 0, .int 5, []) :: (16, .if_icmp .eq 5, 21, 0, .null, []) :: (19, .iconst (-1), 0, 0, .int (-1), []) :: (20, .ireturn, 0, 0, .null, []) :: B4_pop_21
set_option maxRecDepth 20000 in
theorem vB4_pop_132 : am_vl 4 false (some .int) cX4_pop B4_pop_132 = true := am_vt (tl := []) 1 0 (by decide +kernel) rfl rfl rfl
set_option maxRecDepth 20000 in
theorem vB4_pop_79 : am_vl 4 false (some .int) cX4_pop B4_pop_79 = true := am_vt (tl := B4_pop_132) 24 132 (by decide +kernel) rfl rfl vB4_pop_132
set_option maxRecDepth 20000 in
theorem vB4_pop_65 : am_vl 4 false (some .int) cX4_pop B4_pop_65 = true := am_vt (tl := B4_pop_79) 7 79 (by decide +kernel) rfl rfl vB4_pop_79
set_option maxRecDepth 20000 in
theorem vB4_pop_21 : am_vl 4 false (some .int) cX4_pop B4_pop_21 = true := am_vt (tl := B4_pop_65) 23 65 (by decide +kernel) rfl rfl vB4_pop_65
set_option maxRecDepth 20000 in
theorem vB4_pop_0 : am_vl 4 false (some .int) cX4_pop B4_pop_0 = true := am_vt (tl := B4_pop_21) 13 21 (by decide +kernel) rfl rfl vB4_pop_21
def B4_enter_125 : List am_I := (125, .aload_n 0, 0, 0, .null, []) :: (126, .getfield 26, 4, 2, .null, []) :: (129, .iload_n 1, 0, 0, .null, []) :: (130, .invokevirtual 121, 23, 1, .ref 1, []) :: (133, .aload_n 0, 0, 0, .null, []) :: (134, .getfield 26, 4, 2, .null, []) :: (137, .invokevirtual 199, 14, 0, .ref 1, []) :: (140, .aload_n 0, 0, 0, .null, []) :: (141, .getfield 26, 4, 2, .null, []) :: (144, .invokevirtual 193, 12, 0, .ref 1, []) :: (147, .ireturn, 0, 0, .null, []) :: []
def B4_enter_107 : List am_I := (107, .aload_n 0, 0, 0, .null, []) :: (108, .getfield 26, 4, 2, .null, []) :: (111, .iload_n 3, 0, 0, .null, []) :: (112, .iload 4, 0, 0, .null, []) :: (114, .iload 5, 0, 0, .null, []) :: (116, .invokevirtual 170, 25, 3, .ref 1, []) :: (119, .iinc 4 1, 0, 0, .int 1, []) :: (122, .goto (-63), 59, 0, .null, []) :: B4_enter_125
def B4_enter_59 : List am_I := (59, .iload 4, 0, 0, .null, []) :: (61, .iload_n 1, 0, 0, .null, []) :: (62, .if_icmp .ge 63, 125, 0, .null, []) :: (65, .aload_n 0, 0, 0, .null, []) :: (66, .getfield 26, 4, 2, .null, []) :: (69, .iload_n 2, 0, 0, .null, []) :: (70, .iload 4, 0, 0, .null, []) :: (72, .iadd, 0, 0, .null, []) :: (73, .invokevirtual 196, 19, 1, .ref 1, []) :: (76, .istore 5, 0, 0, .null, []) :: (78, .aload_n 0, 0, 0, .null, []) :: (79, .getfield 19, 4, 1, .null, []) :: (82, .iload_n 2, 0, 0, .null, []) :: (83, .iload 4, 0, 0, .null, []) :: (85, .iadd, 0, 0, .null, []) :: (86, .invokestatic 106, 94, 1, .int 0, []) :: (89, .iload_n 3, 0, 0, .null, []) :: (90, .iload 4, 0, 0, .null, []) :: (92, .invokestatic 167, 95, 2, .int 0, []) :: (95, .aload_n 0, 0, 0, .null, []) :: (96, .getfield 12, 4, 0, .null, []) :: (99, .iload 5, 0, 0, .null, []) :: (101, .invokevirtual 53, 55, 1, .ref 3, []) :: (104, .invokevirtual 113, 31, 3, .ref 2, []) :: B4_enter_107
def B4_enter_38 : List am_I := (38, .aload_n 0, 0, 0, .null, []) :: (39, .getfield 26, 4, 2, .null, []) :: (42, .invokevirtual 103, 16, 0, .ref 1, []) :: (45, .iload_n 1, 0, 0, .null, []) :: (46, .isub, 0, 0, .null, []) :: (47, .istore_n 2, 0, 0, .null, []) :: (48, .aload_n 0, 0, 0, .null, []) :: (49, .getfield 26, 4, 2, .null, []) :: (52, .invokevirtual 193, 12, 0, .ref 1, []) :: (55, .istore_n 3, 0, 0, .null, []) :: (56, .iconst 0, 0, 0, .int 0, []) :: (57, .istore 4, 0, 0, .null, []) :: B4_enter_59
def B4_enter_23 : List am_I := (23, .aload_n 0, 0, 0, .null, []) :: (24, .getfield 26, 4, 2, .null, []) :: (27, .invokevirtual 193, 12, 0, .ref 1, []) :: (30, .bipush 12, 0, 0, .int 12, []) :: (32, .if_icmp .lt 6, 38, 0, .null, []) :: (35, .bipush (-2), 0, 0, .int (-2), []) :: (37, .ireturn, 0, 0, .null, []) :: B4_enter_38
def B4_enter_21 : List am_I := (21, .iconst (-1), 0, 0, .int (-1), []) :: (22, .ireturn, 0, 0, .null, []) :: B4_enter_23
def B4_enter_0 : List am_I := (0, .iload_n 1, 0, 0, .null, []) :: (1, .ifCond .lt 20, 21, 0, .null, []) :: (4, .iload_n 1, 0, 0, .null, []) :: (5, .bipush 8, 0, 0, .int 8, []) :: (7, .if_icmp .gt 14, 21, 0, .null, []) :: (10, .iload_n 1, 0, 0, .null, []) :: (11, .aload_n 0, 0, 0, .null, []) :: (12, .getfield 26, 4, 2, .null, []) :: (15, .invokevirtual 190, 17, 0, .ref 1, []) :: (18, .if_icmp .le 5, 23, 0, .null, []) :: B4_enter_21
set_option maxRecDepth 20000 in
theorem vB4_enter_125 : am_vl 4 false (some .int) cX4_enter B4_enter_125 = true := am_vt (tl := []) 11 0 (by decide +kernel) rfl rfl rfl
set_option maxRecDepth 20000 in
theorem vB4_enter_107 : am_vl 4 false (some .int) cX4_enter B4_enter_107 = true := am_vt (tl := B4_enter_125) 8 125 (by decide +kernel) rfl rfl vB4_enter_125
set_option maxRecDepth 20000 in
theorem vB4_enter_59 : am_vl 4 false (some .int) cX4_enter B4_enter_59 = true := am_vt (tl := B4_enter_107) 24 107 (by decide +kernel) rfl rfl vB4_enter_107
set_option maxRecDepth 20000 in
theorem vB4_enter_38 : am_vl 4 false (some .int) cX4_enter B4_enter_38 = true := am_vt (tl := B4_enter_59) 12 59 (by decide +kernel) rfl rfl vB4_enter_59
set_option maxRecDepth 20000 in
theorem vB4_enter_23 : am_vl 4 false (some .int) cX4_enter B4_enter_23 = true := am_vt (tl := B4_enter_38) 7 38 (by decide +kernel) rfl rfl vB4_enter_38
set_option maxRecDepth 20000 in
theorem vB4_enter_21 : am_vl 4 false (some .int) cX4_enter B4_enter_21 = true := am_vt (tl := B4_enter_23) 2 23 (by decide +kernel) rfl rfl vB4_enter_23
set_option maxRecDepth 20000 in
theorem vB4_enter_0 : am_vl 4 false (some .int) cX4_enter B4_enter_0 = true := am_vt (tl := B4_enter_21) 10 21 (by decide +kernel) rfl rfl vB4_enter_21
def B4_leave_88 : List am_I := (88, .aload_n 0, 0, 0, .null, []) :: (89, .getfield 26, 4, 2, .null, []) :: (92, .invokevirtual 193, 12, 0, .ref 1, []) :: (95, .ireturn, 0, 0, .null, []) :: []
def B4_leave_53 : List am_I := (53, .invokevirtual 202, 104, 1, .ref 4, []) :: (56, .iload_n 1, 0, 0, .null, []) :: (57, .ifCond .eq 31, 88, 0, .null, []) :: (60, .aload_n 0, 0, 0, .null, []) :: (61, .getfield 26, 4, 2, .null, []) :: (64, .iload_n 2, 0, 0, .null, []) :: (65, .invokevirtual 125, 22, 1, .ref 1, []) :: (68, .aload_n 0, 0, 0, .null, []) :: (69, .getfield 19, 4, 1, .null, []) :: (72, .iload_n 3, 0, 0, .null, []) :: (73, .aload_n 0, 0, 0, .null, []) :: (74, .invokevirtual 131, 97, 0, .ref 4, []) :: (77, .aload_n 0, 0, 0, .null, []) :: (78, .getfield 12, 4, 0, .null, []) :: (81, .iload_n 2, 0, 0, .null, []) :: (82, .invokevirtual 53, 55, 1, .ref 3, []) :: (85, .invokevirtual 113, 31, 3, .ref 2, []) :: B4_leave_88
def B4_leave_52 : List am_I := (52, .iconst 0, 0, 0, .int 0, []) :: B4_leave_53
def B4_leave_38 : List am_I := (38, .aload_n 0, 0, 0, .null, []) :: (39, .invokevirtual 131, 97, 0, .ref 4, []) :: (42, .istore_n 3, 0, 0, .null, []) :: (43, .aload_n 0, 0, 0, .null, []) :: (44, .iload_n 1, 0, 0, .null, []) :: (45, .ifCond .eq 7, 52, 0, .null, []) :: (48, .iconst 1, 0, 0, .int 1, []) :: (49, .goto 4, 53, 0, .null, []) :: B4_leave_52
def B4_leave_36 : List am_I := (36, .iconst (-1), 0, 0, .int (-1), []) :: (37, .ireturn, 0, 0, .null, []) :: B4_leave_38
def B4_leave_15 : List am_I := (15, .istore_n 2, 0, 0, .null, []) :: (16, .aload_n 0, 0, 0, .null, []) :: (17, .getfield 26, 4, 2, .null, []) :: (20, .invokevirtual 193, 12, 0, .ref 1, []) :: (23, .iconst 1, 0, 0, .int 1, []) :: (24, .if_icmp .le 12, 36, 0, .null, []) :: (27, .iload_n 1, 0, 0, .null, []) :: (28, .ifCond .eq 10, 38, 0, .null, []) :: (31, .iload_n 2, 0, 0, .null, []) :: (32, .iconst (-1), 0, 0, .int (-1), []) :: (33, .if_icmp .ne 5, 38, 0, .null, []) :: B4_leave_36
def B4_leave_14 : List am_I := (14, .iconst (-1), 0, 0, .int (-1), []) :: B4_leave_15
def B4_leave_0 : List am_I := (0, .iload_n 1, 0, 0, .null, []) :: (1, .ifCond .eq 13, 14, 0, .null, []) :: (4, .aload_n 0, 0, 0, .null, []) :: (5, .getfield 26, 4, 2, .null, []) :: (8, .invokevirtual 128, 20, 0, .ref 1, []) :: (11, .goto 4, 15, 0, .null, []) :: B4_leave_14
set_option maxRecDepth 20000 in
theorem vB4_leave_88 : am_vl 4 false (some .int) cX4_leave B4_leave_88 = true := am_vt (tl := []) 4 0 (by decide +kernel) rfl rfl rfl
set_option maxRecDepth 20000 in
theorem vB4_leave_53 : am_vl 4 false (some .int) cX4_leave B4_leave_53 = true := am_vt (tl := B4_leave_88) 17 88 (by decide +kernel) rfl rfl vB4_leave_88
set_option maxRecDepth 20000 in
theorem vB4_leave_52 : am_vl 4 false (some .int) cX4_leave B4_leave_52 = true := am_vt (tl := B4_leave_53) 1 53 (by decide +kernel) rfl rfl vB4_leave_53
set_option maxRecDepth 20000 in
theorem vB4_leave_38 : am_vl 4 false (some .int) cX4_leave B4_leave_38 = true := am_vt (tl := B4_leave_52) 8 52 (by decide +kernel) rfl rfl vB4_leave_52
set_option maxRecDepth 20000 in
theorem vB4_leave_36 : am_vl 4 false (some .int) cX4_leave B4_leave_36 = true := am_vt (tl := B4_leave_38) 2 38 (by decide +kernel) rfl rfl vB4_leave_38
set_option maxRecDepth 20000 in
theorem vB4_leave_15 : am_vl 4 false (some .int) cX4_leave B4_leave_15 = true := am_vt (tl := B4_leave_36) 11 36 (by decide +kernel) rfl rfl vB4_leave_36
set_option maxRecDepth 20000 in
theorem vB4_leave_14 : am_vl 4 false (some .int) cX4_leave B4_leave_14 = true := am_vt (tl := B4_leave_15) 1 15 (by decide +kernel) rfl rfl vB4_leave_15
set_option maxRecDepth 20000 in
theorem vB4_leave_0 : am_vl 4 false (some .int) cX4_leave B4_leave_0 = true := am_vt (tl := B4_leave_14) 6 14 (by decide +kernel) rfl rfl vB4_leave_14
def B4_fail_26 : List am_I := (26, .aload_n 0, 0, 0, .null, []) :: (27, .getfield 26, 4, 2, .null, []) :: (30, .invokevirtual 199, 14, 0, .ref 1, []) :: (33, .iload_n 1, 0, 0, .null, []) :: (34, .ireturn, 0, 0, .null, []) :: []
def B4_fail_10 : List am_I := (10, .iload_n 2, 0, 0, .null, []) :: (11, .iload_n 1, 0, 0, .null, []) :: (12, .if_icmp .ge 14, 26, 0, .null, []) :: (15, .aload_n 0, 0, 0, .null, []) :: (16, .iconst 0, 0, 0, .int 0, []) :: (17, .invokevirtual 202, 104, 1, .ref 4, []) :: (20, .iinc 2 1, 0, 0, .int 1, []) :: (23, .goto (-13), 10, 0, .null, []) :: B4_fail_26
def B4_fail_0 : List am_I := (0, .aload_n 0, 0, 0, .null, []) :: (1, .getfield 26, 4, 2, .null, []) :: (4, .invokevirtual 193, 12, 0, .ref 1, []) :: (7, .istore_n 1, 0, 0, .null, []) :: (8, .iconst 0, 0, 0, .int 0, []) :: (9, .istore_n 2, 0, 0, .null, []) :: B4_fail_10
set_option maxRecDepth 20000 in
theorem vB4_fail_26 : am_vl 4 false (some .int) cX4_fail B4_fail_26 = true := am_vt (tl := []) 5 0 (by decide +kernel) rfl rfl rfl
set_option maxRecDepth 20000 in
theorem vB4_fail_10 : am_vl 4 false (some .int) cX4_fail B4_fail_10 = true := am_vt (tl := B4_fail_26) 8 26 (by decide +kernel) rfl rfl vB4_fail_26
set_option maxRecDepth 20000 in
theorem vB4_fail_0 : am_vl 4 false (some .int) cX4_fail B4_fail_0 = true := am_vt (tl := B4_fail_10) 6 10 (by decide +kernel) rfl rfl vB4_fail_10
def B4_shape_0 : List am_I := (0, .aload_n 0, 0, 0, .null, []) :: (1, .iload_n 1, 0, 0, .null, []) :: (2, .iload_n 2, 0, 0, .null, []) :: (3, .invokevirtual 173, 98, 2, .ref 4, []) :: (6, .ireturn, 0, 0, .null, []) :: []
set_option maxRecDepth 20000 in
theorem vB4_shape_0 : am_vl 4 false (some .int) cX4_shape B4_shape_0 = true := am_vt (tl := []) 5 0 (by decide +kernel) rfl rfl rfl
def B4_look_24 : List am_I := (24, .lreturn, 0, 0, .null, []) :: []
def B4_look_23 : List am_I := (23, .lconst 0, 0, 0, .long 0, []) :: B4_look_24
def B4_look_0 : List am_I := (0, .aload_n 0, 0, 0, .null, []) :: (1, .iload_n 1, 0, 0, .null, []) :: (2, .iload_n 2, 0, 0, .null, []) :: (3, .invokevirtual 173, 98, 2, .ref 4, []) :: (6, .ifCond .ne 17, 23, 0, .null, []) :: (9, .aload_n 0, 0, 0, .null, []) :: (10, .getfield 19, 4, 1, .null, []) :: (13, .aload_n 0, 0, 0, .null, []) :: (14, .getfield 43, 4, 5, .null, []) :: (17, .invokevirtual 134, 29, 1, .ref 2, []) :: (20, .goto 4, 24, 0, .null, []) :: B4_look_23
set_option maxRecDepth 20000 in
theorem vB4_look_24 : am_vl 4 false (some .long) cX4_look B4_look_24 = true := am_vt (tl := []) 1 0 (by decide +kernel) rfl rfl rfl
set_option maxRecDepth 20000 in
theorem vB4_look_23 : am_vl 4 false (some .long) cX4_look B4_look_23 = true := am_vt (tl := B4_look_24) 1 24 (by decide +kernel) rfl rfl vB4_look_24
set_option maxRecDepth 20000 in
theorem vB4_look_0 : am_vl 4 false (some .long) cX4_look B4_look_0 = true := am_vt (tl := B4_look_23) 11 23 (by decide +kernel) rfl rfl vB4_look_23
def B4_state_72 : List am_I := (72, .iconst (-1), 0, 0, .int (-1), []) :: (73, .ireturn, 0, 0, .null, []) :: []
def B4_state_53 : List am_I := (53, .aload_n 0, 0, 0, .null, []) :: (54, .getfield 19, 4, 1, .null, []) :: (57, .aload_n 0, 0, 0, .null, []) :: (58, .getfield 19, 4, 1, .null, []) :: (61, .aload_n 0, 0, 0, .null, []) :: (62, .getfield 43, 4, 5, .null, []) :: (65, .invokevirtual 134, 29, 1, .ref 2, []) :: (68, .invokevirtual 179, 46, 1, .ref 2, []) :: (71, .ireturn, 0, 0, .null, []) :: B4_state_72
def B4_state_40 : List am_I := (40, .aload_n 0, 0, 0, .null, []) :: (41, .getfield 19, 4, 1, .null, []) :: (44, .aload_n 0, 0, 0, .null, []) :: (45, .getfield 43, 4, 5, .null, []) :: (48, .invokevirtual 134, 29, 1, .ref 2, []) :: (51, .l2i, 0, 0, .null, []) :: (52, .ireturn, 0, 0, .null, []) :: B4_state_53
def B4_state_0 : List am_I := (0, .aload_n 0, 0, 0, .null, []) :: (1, .getfield 12, 4, 0, .null, []) :: (4, .aload_n 0, 0, 0, .null, []) :: (5, .iload_n 1, 0, 0, .null, []) :: (6, .iload_n 2, 0, 0, .null, []) :: (7, .invokevirtual 173, 98, 2, .ref 4, []) :: (10, .invokevirtual 71, 54, 1, .ref 3, []) :: (13, .lookupswitch 59 #[(3, 27), (5, 40)], 72, 0, .null, [(3, 40), (5, 53)]) :: B4_state_40
set_option maxRecDepth 20000 in
theorem vB4_state_72 : am_vl 4 false (some .int) cX4_state B4_state_72 = true := am_vt (tl := []) 2 0 (by decide +kernel) rfl rfl rfl
set_option maxRecDepth 20000 in
theorem vB4_state_53 : am_vl 4 false (some .int) cX4_state B4_state_53 = true := am_vt (tl := B4_state_72) 9 72 (by decide +kernel) rfl rfl vB4_state_72
set_option maxRecDepth 20000 in
theorem vB4_state_40 : am_vl 4 false (some .int) cX4_state B4_state_40 = true := am_vt (tl := B4_state_53) 7 53 (by decide +kernel) rfl rfl vB4_state_53
set_option maxRecDepth 20000 in
theorem vB4_state_0 : am_vl 4 false (some .int) cX4_state B4_state_0 = true := am_vt (tl := B4_state_40) 8 40 (by decide +kernel) rfl rfl vB4_state_40
def B4_out_0 : List am_I := (0, .aload_n 0, 0, 0, .null, []) :: (1, .getfield 35, 4, 3, .null, []) :: (4, .iload_n 1, 0, 0, .null, []) :: (5, .invokevirtual 205, 3, 1, .ref 0, []) :: (8, .lreturn, 0, 0, .null, []) :: []
set_option maxRecDepth 20000 in
theorem vB4_out_0 : am_vl 4 false (some .long) cX4_out B4_out_0 = true := am_vt (tl := []) 5 0 (by decide +kernel) rfl rfl rfl
def B4_count_133 : List am_I := (133, .iconst (-1), 0, 0, .int (-1), []) :: (134, .ireturn, 0, 0, .null, []) :: []
def B4_count_125 : List am_I := (125, .aload_n 0, 0, 0, .null, []) :: (126, .getfield 35, 4, 3, .null, []) :: (129, .invokevirtual 220, 2, 0, .ref 0, []) :: (132, .ireturn, 0, 0, .null, []) :: B4_count_133
def B4_count_117 : List am_I := (117, .aload_n 0, 0, 0, .null, []) :: (118, .getfield 35, 4, 3, .null, []) :: (121, .invokevirtual 217, 1, 0, .ref 0, []) :: (124, .ireturn, 0, 0, .null, []) :: B4_count_125
def B4_count_112 : List am_I := (112, .aload_n 0, 0, 0, .null, []) :: (113, .getfield 39, 4, 4, .null, []) :: (116, .ireturn, 0, 0, .null, []) :: B4_count_117
def B4_count_104 : List am_I := (104, .aload_n 0, 0, 0, .null, []) :: (105, .getfield 19, 4, 1, .null, []) :: (108, .invokevirtual 96, 35, 0, .ref 2, []) :: (111, .ireturn, 0, 0, .null, []) :: B4_count_112
def B4_count_96 : List am_I := (96, .aload_n 0, 0, 0, .null, []) :: (97, .getfield 19, 4, 1, .null, []) :: (100, .invokevirtual 214, 34, 0, .ref 2, []) :: (103, .ireturn, 0, 0, .null, []) :: B4_count_104
def B4_count_88 : List am_I := (88, .aload_n 0, 0, 0, .null, []) :: (89, .getfield 26, 4, 2, .null, []) :: (92, .invokevirtual 211, 27, 0, .ref 1, []) :: (95, .ireturn, 0, 0, .null, []) :: B4_count_96
def B4_count_80 : List am_I := (80, .aload_n 0, 0, 0, .null, []) :: (81, .getfield 26, 4, 2, .null, []) :: (84, .invokevirtual 190, 17, 0, .ref 1, []) :: (87, .ireturn, 0, 0, .null, []) :: B4_count_88
def B4_count_72 : List am_I := (72, .aload_n 0, 0, 0, .null, []) :: (73, .getfield 26, 4, 2, .null, []) :: (76, .invokevirtual 103, 16, 0, .ref 1, []) :: (79, .ireturn, 0, 0, .null, []) :: B4_count_80
def B4_count_64 : List am_I := (64, .aload_n 0, 0, 0, .null, []) :: (65, .getfield 26, 4, 2, .null, []) :: (68, .invokevirtual 193, 12, 0, .ref 1, []) :: (71, .ireturn, 0, 0, .null, []) :: B4_count_72
def B4_count_56 : List am_I := (56, .aload_n 0, 0, 0, .null, []) :: (57, .getfield 12, 4, 0, .null, []) :: (60, .invokevirtual 208, 51, 0, .ref 3, []) :: (63, .ireturn, 0, 0, .null, []) :: B4_count_64
def B4_count_0 : List am_I := (0, .iload_n 1, 0, 0, .null, []) :: (1, .tableswitch 132 0 9 #[55, 63, 71, 79, 87, 95, 103, 111, 116, 124], 133, 0, .null, [(0, 56), (1, 64), (2, 72), (3, 80), (4, 88), (5, 96), (6, 104), (7, 112), (8, 117), (9, 125)]) :: B4_count_56
set_option maxRecDepth 20000 in
theorem vB4_count_133 : am_vl 4 false (some .int) cX4_count B4_count_133 = true := am_vt (tl := []) 2 0 (by decide +kernel) rfl rfl rfl
set_option maxRecDepth 20000 in
theorem vB4_count_125 : am_vl 4 false (some .int) cX4_count B4_count_125 = true := am_vt (tl := B4_count_133) 4 133 (by decide +kernel) rfl rfl vB4_count_133
set_option maxRecDepth 20000 in
theorem vB4_count_117 : am_vl 4 false (some .int) cX4_count B4_count_117 = true := am_vt (tl := B4_count_125) 4 125 (by decide +kernel) rfl rfl vB4_count_125
set_option maxRecDepth 20000 in
theorem vB4_count_112 : am_vl 4 false (some .int) cX4_count B4_count_112 = true := am_vt (tl := B4_count_117) 3 117 (by decide +kernel) rfl rfl vB4_count_117
set_option maxRecDepth 20000 in
theorem vB4_count_104 : am_vl 4 false (some .int) cX4_count B4_count_104 = true := am_vt (tl := B4_count_112) 4 112 (by decide +kernel) rfl rfl vB4_count_112
set_option maxRecDepth 20000 in
theorem vB4_count_96 : am_vl 4 false (some .int) cX4_count B4_count_96 = true := am_vt (tl := B4_count_104) 4 104 (by decide +kernel) rfl rfl vB4_count_104
set_option maxRecDepth 20000 in
theorem vB4_count_88 : am_vl 4 false (some .int) cX4_count B4_count_88 = true := am_vt (tl := B4_count_96) 4 96 (by decide +kernel) rfl rfl vB4_count_96
set_option maxRecDepth 20000 in
theorem vB4_count_80 : am_vl 4 false (some .int) cX4_count B4_count_80 = true := am_vt (tl := B4_count_88) 4 88 (by decide +kernel) rfl rfl vB4_count_88
set_option maxRecDepth 20000 in
theorem vB4_count_72 : am_vl 4 false (some .int) cX4_count B4_count_72 = true := am_vt (tl := B4_count_80) 4 80 (by decide +kernel) rfl rfl vB4_count_80
set_option maxRecDepth 20000 in
theorem vB4_count_64 : am_vl 4 false (some .int) cX4_count B4_count_64 = true := am_vt (tl := B4_count_72) 4 72 (by decide +kernel) rfl rfl vB4_count_72
set_option maxRecDepth 20000 in
theorem vB4_count_56 : am_vl 4 false (some .int) cX4_count B4_count_56 = true := am_vt (tl := B4_count_64) 4 64 (by decide +kernel) rfl rfl vB4_count_64
set_option maxRecDepth 20000 in
theorem vB4_count_0 : am_vl 4 false (some .int) cX4_count B4_count_0 = true := am_vt (tl := B4_count_56) 2 56 (by decide +kernel) rfl rfl vB4_count_56
def B4_layOneCell_14 : List am_I := (14, .aload_n 0, 0, 0, .null, []) :: (15, .getfield 26, 4, 2, .null, []) :: (18, .iload_n 1, 0, 0, .null, []) :: (19, .invokevirtual 125, 22, 1, .ref 1, []) :: (22, .aload_n 0, 0, 0, .null, []) :: (23, .getfield 19, 4, 1, .null, []) :: (26, .aload_n 0, 0, 0, .null, []) :: (27, .invokevirtual 131, 97, 0, .ref 4, []) :: (30, .lload_n 2, 0, 0, .null, []) :: (31, .invokevirtual 117, 30, 2, .ref 2, []) :: (34, .iconst 1, 0, 0, .int 1, []) :: (35, .ireturn, 0, 0, .null, []) :: []
def B4_layOneCell_0 : List am_I := (0, .aload_n 0, 0, 0, .null, []) :: (1, .getfield 26, 4, 2, .null, []) :: (4, .iconst 1, 0, 0, .int 1, []) :: (5, .invokevirtual 93, 18, 1, .ref 1, []) :: (8, .ifCond .ne 6, 14, 0, .null, []) :: (11, .bipush (-2), 0, 0, .int (-2), []) :: (13, .ireturn, 0, 0, .null, []) :: B4_layOneCell_14
set_option maxRecDepth 20000 in
theorem vB4_layOneCell_14 : am_vl 4 false (some .int) cX4_layOneCell B4_layOneCell_14 = true := am_vt (tl := []) 12 0 (by decide +kernel) rfl rfl rfl
set_option maxRecDepth 20000 in
theorem vB4_layOneCell_0 : am_vl 4 false (some .int) cX4_layOneCell B4_layOneCell_0 = true := am_vt (tl := B4_layOneCell_14) 7 14 (by decide +kernel) rfl rfl vB4_layOneCell_14
def B4_makeRecord_133 : List am_I := (133, .iconst 1, 0, 0, .int 1, []) :: (134, .ireturn, 0, 0, .null, []) :: []
def B4_makeRecord_95 : List am_I := (95, .aload_n 0, 0, 0, .null, []) :: (96, .getfield 26, 4, 2, .null, []) :: (99, .iload_n 2, 0, 0, .null, []) :: (100, .invokevirtual 121, 23, 1, .ref 1, []) :: (103, .aload_n 0, 0, 0, .null, []) :: (104, .getfield 26, 4, 2, .null, []) :: (107, .iload_n 1, 0, 0, .null, []) :: (108, .invokevirtual 125, 22, 1, .ref 1, []) :: (111, .aload_n 0, 0, 0, .null, []) :: (112, .getfield 12, 4, 0, .null, []) :: (115, .iload_n 1, 0, 0, .null, []) :: (116, .invokevirtual 71, 54, 1, .ref 3, []) :: (119, .iconst 2, 0, 0, .int 2, []) :: (120, .if_icmp .ne 13, 133, 0, .null, []) :: (123, .aload_n 0, 0, 0, .null, []) :: (124, .dup, 0, 0, .null, []) :: (125, .getfield 39, 4, 4, .null, []) :: (128, .iconst 1, 0, 0, .int 1, []) :: (129, .iadd, 0, 0, .null, []) :: (130, .putfield 39, 4, 4, .null, []) :: B4_makeRecord_133
def B4_makeRecord_87 : List am_I := (87, .istore 4, 0, 0, .null, []) :: (89, .iinc 5 1, 0, 0, .int 1, []) :: (92, .goto (-53), 39, 0, .null, []) :: B4_makeRecord_95
def B4_makeRecord_39 : List am_I := (39, .iload 5, 0, 0, .null, []) :: (41, .iload_n 2, 0, 0, .null, []) :: (42, .if_icmp .ge 53, 95, 0, .null, []) :: (45, .aload_n 0, 0, 0, .null, []) :: (46, .getfield 12, 4, 0, .null, []) :: (49, .aload_n 0, 0, 0, .null, []) :: (50, .getfield 12, 4, 0, .null, []) :: (53, .iload_n 1, 0, 0, .null, []) :: (54, .iload 5, 0, 0, .null, []) :: (56, .invokevirtual 74, 56, 2, .ref 3, []) :: (59, .invokevirtual 53, 55, 1, .ref 3, []) :: (62, .istore 6, 0, 0, .null, []) :: (64, .aload_n 0, 0, 0, .null, []) :: (65, .getfield 19, 4, 1, .null, []) :: (68, .iload_n 3, 0, 0, .null, []) :: (69, .iload 5, 0, 0, .null, []) :: (71, .iadd, 0, 0, .null, []) :: (72, .invokestatic 106, 94, 1, .int 0, []) :: (75, .iload 4, 0, 0, .null, []) :: (77, .iload 6, 0, 0, .null, []) :: (79, .invokevirtual 113, 31, 3, .ref 2, []) :: (82, .iload 4, 0, 0, .null, []) :: (84, .iload 6, 0, 0, .null, []) :: (86, .iadd, 0, 0, .null, []) :: B4_makeRecord_87
def B4_makeRecord_20 : List am_I := (20, .aload_n 0, 0, 0, .null, []) :: (21, .getfield 26, 4, 2, .null, []) :: (24, .invokevirtual 103, 16, 0, .ref 1, []) :: (27, .iload_n 2, 0, 0, .null, []) :: (28, .isub, 0, 0, .null, []) :: (29, .istore_n 3, 0, 0, .null, []) :: (30, .iload_n 3, 0, 0, .null, []) :: (31, .invokestatic 106, 94, 1, .int 0, []) :: (34, .istore 4, 0, 0, .null, []) :: (36, .iconst 0, 0, 0, .int 0, []) :: (37, .istore 5, 0, 0, .null, []) :: B4_makeRecord_39
def B4_makeRecord_0 : List am_I := (0, .aload_n 0, 0, 0, .null, []) :: (1, .getfield 12, 4, 0, .null, []) :: (4, .iload_n 1, 0, 0, .null, []) :: (5, .invokevirtual 223, 57, 1, .ref 3, []) :: (8, .istore_n 2, 0, 0, .null, []) :: (9, .aload_n 0, 0, 0, .null, []) :: (10, .iload_n 1, 0, 0, .null, []) :: (11, .iload_n 2, 0, 0, .null, []) :: (12, .invokevirtual 226, 88, 2, .ref 4, []) :: (15, .ifCond .ne 5, 20, 0, .null, []) :: (18, .iconst (-1), 0, 0, .int (-1), []) :: (19, .ireturn, 0, 0, .null, []) :: B4_makeRecord_20
set_option maxRecDepth 20000 in
theorem vB4_makeRecord_133 : am_vl 4 false (some .int) cX4_makeRecord B4_makeRecord_133 = true := am_vt (tl := []) 2 0 (by decide +kernel) rfl rfl rfl
set_option maxRecDepth 20000 in
theorem vB4_makeRecord_95 : am_vl 4 false (some .int) cX4_makeRecord B4_makeRecord_95 = true := am_vt (tl := B4_makeRecord_133) 20 133 (by decide +kernel) rfl rfl vB4_makeRecord_133
set_option maxRecDepth 20000 in
theorem vB4_makeRecord_87 : am_vl 4 false (some .int) cX4_makeRecord B4_makeRecord_87 = true := am_vt (tl := B4_makeRecord_95) 3 95 (by decide +kernel) rfl rfl vB4_makeRecord_95
set_option maxRecDepth 20000 in
theorem vB4_makeRecord_39 : am_vl 4 false (some .int) cX4_makeRecord B4_makeRecord_39 = true := am_vt (tl := B4_makeRecord_87) 24 87 (by decide +kernel) rfl rfl vB4_makeRecord_87
set_option maxRecDepth 20000 in
theorem vB4_makeRecord_20 : am_vl 4 false (some .int) cX4_makeRecord B4_makeRecord_20 = true := am_vt (tl := B4_makeRecord_39) 11 39 (by decide +kernel) rfl rfl vB4_makeRecord_39
set_option maxRecDepth 20000 in
theorem vB4_makeRecord_0 : am_vl 4 false (some .int) cX4_makeRecord B4_makeRecord_0 = true := am_vt (tl := B4_makeRecord_20) 12 20 (by decide +kernel) rfl rfl vB4_makeRecord_20
def B4_handEndsWithFieldsOf_64 : List am_I := (64, .iconst 1, 0, 0, .int 1, []) :: (65, .ireturn, 1, 0, .null, []) :: []
def B4_handEndsWithFieldsOf_58 : List am_I := (58, .iinc 4 1, 0, 0, .int 1, []) :: (61, .goto (-35), 26, 0, .null, []) :: B4_handEndsWithFieldsOf_64
def B4_handEndsWithFieldsOf_26 : List am_I := (26, .iload 4, 0, 0, .null, []) :: (28, .iload_n 2, 0, 0, .null, []) :: (29, .if_icmp .ge 35, 64, 0, .null, []) :: (32, .aload_n 0, 0, 0, .null, []) :: (33, .getfield 26, 4, 2, .null, []) :: (36, .iload_n 3, 0, 0, .null, []) :: (37, .iload 4, 0, 0, .null, []) :: (39, .iadd, 0, 0, .null, []) :: (40, .invokevirtual 196, 19, 1, .ref 1, []) :: (43, .aload_n 0, 0, 0, .null, []) :: (44, .getfield 12, 4, 0, .null, []) :: (47, .iload_n 1, 0, 0, .null, []) :: (48, .iload 4, 0, 0, .null, []) :: (50, .invokevirtual 74, 56, 2, .ref 3, []) :: (53, .if_icmp .eq 5, 58, 0, .null, []) :: (56, .iconst 0, 0, 0, .int 0, []) :: (57, .ireturn, 1, 0, .null, []) :: B4_handEndsWithFieldsOf_58
def B4_handEndsWithFieldsOf_13 : List am_I := (13, .aload_n 0, 0, 0, .null, []) :: (14, .getfield 26, 4, 2, .null, []) :: (17, .invokevirtual 103, 16, 0, .ref 1, []) :: (20, .iload_n 2, 0, 0, .null, []) :: (21, .isub, 0, 0, .null, []) :: (22, .istore_n 3, 0, 0, .null, []) :: (23, .iconst 0, 0, 0, .int 0, []) :: (24, .istore 4, 0, 0, .null, []) :: B4_handEndsWithFieldsOf_26
def B4_handEndsWithFieldsOf_0 : List am_I := (0, .iload_n 2, 0, 0, .null, []) :: (1, .aload_n 0, 0, 0, .null, []) :: (2, .getfield 26, 4, 2, .null, []) :: (5, .invokevirtual 190, 17, 0, .ref 1, []) :: (8, .if_icmp .le 5, 13, 0, .null, []) :: (11, .iconst 0, 0, 0, .int 0, []) :: (12, .ireturn, 1, 0, .null, []) :: B4_handEndsWithFieldsOf_13
set_option maxRecDepth 20000 in
theorem vB4_handEndsWithFieldsOf_64 : am_vl 4 false (some .boolean) cX4_handEndsWithFieldsOf B4_handEndsWithFieldsOf_64 = true := am_vt (tl := []) 2 0 (by decide +kernel) rfl rfl rfl
set_option maxRecDepth 20000 in
theorem vB4_handEndsWithFieldsOf_58 : am_vl 4 false (some .boolean) cX4_handEndsWithFieldsOf B4_handEndsWithFieldsOf_58 = true := am_vt (tl := B4_handEndsWithFieldsOf_64) 2 64 (by decide +kernel) rfl rfl vB4_handEndsWithFieldsOf_64
set_option maxRecDepth 20000 in
theorem vB4_handEndsWithFieldsOf_26 : am_vl 4 false (some .boolean) cX4_handEndsWithFieldsOf B4_handEndsWithFieldsOf_26 = true := am_vt (tl := B4_handEndsWithFieldsOf_58) 17 58 (by decide +kernel) rfl rfl vB4_handEndsWithFieldsOf_58
set_option maxRecDepth 20000 in
theorem vB4_handEndsWithFieldsOf_13 : am_vl 4 false (some .boolean) cX4_handEndsWithFieldsOf B4_handEndsWithFieldsOf_13 = true := am_vt (tl := B4_handEndsWithFieldsOf_26) 8 26 (by decide +kernel) rfl rfl vB4_handEndsWithFieldsOf_26
set_option maxRecDepth 20000 in
theorem vB4_handEndsWithFieldsOf_0 : am_vl 4 false (some .boolean) cX4_handEndsWithFieldsOf B4_handEndsWithFieldsOf_0 = true := am_vt (tl := B4_handEndsWithFieldsOf_13) 7 13 (by decide +kernel) rfl rfl vB4_handEndsWithFieldsOf_13
def B4_makeChoice_91 : List am_I := (91, .ireturn, 0, 0, .null, []) :: []
def B4_makeChoice_47 : List am_I := (47, .aload_n 0, 0, 0, .null, []) :: (48, .getfield 19, 4, 1, .null, []) :: (51, .aload_n 0, 0, 0, .null, []) :: (52, .invokevirtual 131, 97, 0, .ref 4, []) :: (55, .aload_n 0, 0, 0, .null, []) :: (56, .invokevirtual 131, 97, 0, .ref 4, []) :: (59, .iconst 1, 0, 0, .int 1, []) :: (60, .iadd, 0, 0, .null, []) :: (61, .aload_n 0, 0, 0, .null, []) :: (62, .getfield 12, 4, 0, .null, []) :: (65, .iload_n 3, 0, 0, .null, []) :: (66, .invokevirtual 53, 55, 1, .ref 3, []) :: (69, .invokevirtual 113, 31, 3, .ref 2, []) :: (72, .aload_n 0, 0, 0, .null, []) :: (73, .getfield 19, 4, 1, .null, []) :: (76, .aload_n 0, 0, 0, .null, []) :: (77, .invokevirtual 131, 97, 0, .ref 4, []) :: (80, .iload_n 2, 0, 0, .null, []) :: (81, .i2l, 0, 0, .null, []) :: (82, .invokevirtual 117, 30, 2, .ref 2, []) :: (85, .aload_n 0, 0, 0, .null, []) :: (86, .iload_n 1, 0, 0, .null, []) :: (87, .invokevirtual 145, 93, 1, .ref 4, []) :: (90, .iconst 1, 0, 0, .int 1, []) :: B4_makeChoice_91
def B4_makeChoice_34 : List am_I := (34, .iload_n 3, 0, 0, .null, []) :: (35, .aload_n 0, 0, 0, .null, []) :: (36, .getfield 26, 4, 2, .null, []) :: (39, .invokevirtual 128, 20, 0, .ref 1, []) :: (42, .if_icmp .eq 5, 47, 0, .null, []) :: (45, .iconst (-1), 0, 0, .int (-1), []) :: (46, .ireturn, 0, 0, .null, []) :: B4_makeChoice_47
def B4_makeChoice_11 : List am_I := (11, .aload_n 0, 0, 0, .null, []) :: (12, .getfield 12, 4, 0, .null, []) :: (15, .iload_n 1, 0, 0, .null, []) :: (16, .iload_n 2, 0, 0, .null, []) :: (17, .invokevirtual 74, 56, 2, .ref 3, []) :: (20, .istore_n 3, 0, 0, .null, []) :: (21, .iload_n 3, 0, 0, .null, []) :: (22, .iconst (-1), 0, 0, .int (-1), []) :: (23, .if_icmp .ne 11, 34, 0, .null, []) :: (26, .aload_n 0, 0, 0, .null, []) :: (27, .iload_n 1, 0, 0, .null, []) :: (28, .iload_n 2, 0, 0, .null, []) :: (29, .i2l, 0, 0, .null, []) :: (30, .invokevirtual 77, 86, 2, .ref 4, []) :: (33, .ireturn, 0, 0, .null, []) :: B4_makeChoice_34
def B4_makeChoice_9 : List am_I := (9, .iconst (-1), 0, 0, .int (-1), []) :: (10, .ireturn, 0, 0, .null, []) :: B4_makeChoice_11
def B4_makeChoice_0 : List am_I := (0, .iload_n 2, 0, 0, .null, []) :: (1, .ifCond .lt 8, 9, 0, .null, []) :: (4, .iload_n 2, 0, 0, .null, []) :: (5, .iconst 3, 0, 0, .int 3, []) :: (6, .if_icmp .lt 5, 11, 0, .null, []) :: B4_makeChoice_9
set_option maxRecDepth 20000 in
theorem vB4_makeChoice_91 : am_vl 4 false (some .int) cX4_makeChoice B4_makeChoice_91 = true := am_vt (tl := []) 1 0 (by decide +kernel) rfl rfl rfl
set_option maxRecDepth 20000 in
theorem vB4_makeChoice_47 : am_vl 4 false (some .int) cX4_makeChoice B4_makeChoice_47 = true := am_vt (tl := B4_makeChoice_91) 24 91 (by decide +kernel) rfl rfl vB4_makeChoice_91
set_option maxRecDepth 20000 in
theorem vB4_makeChoice_34 : am_vl 4 false (some .int) cX4_makeChoice B4_makeChoice_34 = true := am_vt (tl := B4_makeChoice_47) 7 47 (by decide +kernel) rfl rfl vB4_makeChoice_47
set_option maxRecDepth 20000 in
theorem vB4_makeChoice_11 : am_vl 4 false (some .int) cX4_makeChoice B4_makeChoice_11 = true := am_vt (tl := B4_makeChoice_34) 15 34 (by decide +kernel) rfl rfl vB4_makeChoice_34
set_option maxRecDepth 20000 in
theorem vB4_makeChoice_9 : am_vl 4 false (some .int) cX4_makeChoice B4_makeChoice_9 = true := am_vt (tl := B4_makeChoice_11) 2 11 (by decide +kernel) rfl rfl vB4_makeChoice_11
set_option maxRecDepth 20000 in
theorem vB4_makeChoice_0 : am_vl 4 false (some .int) cX4_makeChoice B4_makeChoice_0 = true := am_vt (tl := B4_makeChoice_9) 5 9 (by decide +kernel) rfl rfl vB4_makeChoice_9
def B4_makeBox_89 : List am_I := (89, .invokevirtual 117, 30, 2, .ref 2, []) :: (92, .aload_n 0, 0, 0, .null, []) :: (93, .iload_n 1, 0, 0, .null, []) :: (94, .invokevirtual 145, 93, 1, .ref 4, []) :: (97, .iconst 1, 0, 0, .int 1, []) :: (98, .ireturn, 0, 0, .null, []) :: []
def B4_makeBox_43 : List am_I := (43, .aload_n 0, 0, 0, .null, []) :: (44, .getfield 19, 4, 1, .null, []) :: (47, .invokevirtual 229, 36, 0, .ref 2, []) :: (50, .istore_n 3, 0, 0, .null, []) :: (51, .aload_n 0, 0, 0, .null, []) :: (52, .getfield 19, 4, 1, .null, []) :: (55, .aload_n 0, 0, 0, .null, []) :: (56, .invokevirtual 131, 97, 0, .ref 4, []) :: (59, .aload_n 0, 0, 0, .null, []) :: (60, .getfield 19, 4, 1, .null, []) :: (63, .iload_n 3, 0, 0, .null, []) :: (64, .i2l, 0, 0, .null, []) :: (65, .invokevirtual 138, 43, 1, .ref 2, []) :: (68, .aload_n 0, 0, 0, .null, []) :: (69, .getfield 12, 4, 0, .null, []) :: (72, .iload_n 2, 0, 0, .null, []) :: (73, .invokevirtual 53, 55, 1, .ref 3, []) :: (76, .invokevirtual 113, 31, 3, .ref 2, []) :: (79, .aload_n 0, 0, 0, .null, []) :: (80, .getfield 19, 4, 1, .null, []) :: (83, .aload_n 0, 0, 0, .null, []) :: (84, .invokevirtual 131, 97, 0, .ref 4, []) :: (87, .iload_n 3, 0, 0, .null, []) :: (88, .i2l, 0, 0, .null, []) :: B4_makeBox_89
def B4_makeBox_28 : List am_I := (28, .aload_n 0, 0, 0, .null, []) :: (29, .getfield 19, 4, 1, .null, []) :: (32, .invokevirtual 214, 34, 0, .ref 2, []) :: (35, .bipush 60, 0, 0, .int 60, []) :: (37, .if_icmp .lt 6, 43, 0, .null, []) :: (40, .bipush (-2), 0, 0, .int (-2), []) :: (42, .ireturn, 0, 0, .null, []) :: B4_makeBox_43
def B4_makeBox_26 : List am_I := (26, .iconst (-1), 0, 0, .int (-1), []) :: (27, .ireturn, 0, 0, .null, []) :: B4_makeBox_28
def B4_makeBox_0 : List am_I := (0, .aload_n 0, 0, 0, .null, []) :: (1, .getfield 12, 4, 0, .null, []) :: (4, .iload_n 1, 0, 0, .null, []) :: (5, .iconst 0, 0, 0, .int 0, []) :: (6, .invokevirtual 74, 56, 2, .ref 3, []) :: (9, .istore_n 2, 0, 0, .null, []) :: (10, .iload_n 2, 0, 0, .null, []) :: (11, .iconst (-1), 0, 0, .int (-1), []) :: (12, .if_icmp .eq 14, 26, 0, .null, []) :: (15, .iload_n 2, 0, 0, .null, []) :: (16, .aload_n 0, 0, 0, .null, []) :: (17, .getfield 26, 4, 2, .null, []) :: (20, .invokevirtual 128, 20, 0, .ref 1, []) :: (23, .if_icmp .eq 5, 28, 0, .null, []) :: B4_makeBox_26
set_option maxRecDepth 20000 in
theorem vB4_makeBox_89 : am_vl 4 false (some .int) cX4_makeBox B4_makeBox_89 = true := am_vt (tl := []) 6 0 (by decide +kernel) rfl rfl rfl
set_option maxRecDepth 20000 in
theorem vB4_makeBox_43 : am_vl 4 false (some .int) cX4_makeBox B4_makeBox_43 = true := am_vt (tl := B4_makeBox_89) 24 89 (by decide +kernel) rfl rfl vB4_makeBox_89
set_option maxRecDepth 20000 in
theorem vB4_makeBox_28 : am_vl 4 false (some .int) cX4_makeBox B4_makeBox_28 = true := am_vt (tl := B4_makeBox_43) 7 43 (by decide +kernel) rfl rfl vB4_makeBox_43
set_option maxRecDepth 20000 in
theorem vB4_makeBox_26 : am_vl 4 false (some .int) cX4_makeBox B4_makeBox_26 = true := am_vt (tl := B4_makeBox_28) 2 28 (by decide +kernel) rfl rfl vB4_makeBox_28
set_option maxRecDepth 20000 in
theorem vB4_makeBox_0 : am_vl 4 false (some .int) cX4_makeBox B4_makeBox_0 = true := am_vt (tl := B4_makeBox_26) 14 26 (by decide +kernel) rfl rfl vB4_makeBox_26
def B4_takeRecordApart_124 : List am_I := (124, .iload_n 2, 0, 0, .null, []) :: (125, .ireturn, 0, 0, .null, []) :: []
def B4_takeRecordApart_101 : List am_I := (101, .iload 6, 0, 0, .null, []) :: (103, .invokevirtual 53, 55, 1, .ref 3, []) :: (106, .iadd, 0, 0, .null, []) :: (107, .istore 4, 0, 0, .null, []) :: (109, .aload_n 0, 0, 0, .null, []) :: (110, .getfield 26, 4, 2, .null, []) :: (113, .iload 6, 0, 0, .null, []) :: (115, .invokevirtual 125, 22, 1, .ref 1, []) :: (118, .iinc 5 1, 0, 0, .int 1, []) :: (121, .goto (-69), 52, 0, .null, []) :: B4_takeRecordApart_124
def B4_takeRecordApart_52 : List am_I := (52, .iload 5, 0, 0, .null, []) :: (54, .iload_n 2, 0, 0, .null, []) :: (55, .if_icmp .ge 69, 124, 0, .null, []) :: (58, .aload_n 0, 0, 0, .null, []) :: (59, .getfield 12, 4, 0, .null, []) :: (62, .iload_n 1, 0, 0, .null, []) :: (63, .iload 5, 0, 0, .null, []) :: (65, .invokevirtual 74, 56, 2, .ref 3, []) :: (68, .istore 6, 0, 0, .null, []) :: (70, .aload_n 0, 0, 0, .null, []) :: (71, .getfield 19, 4, 1, .null, []) :: (74, .iload 4, 0, 0, .null, []) :: (76, .iload_n 3, 0, 0, .null, []) :: (77, .iload 5, 0, 0, .null, []) :: (79, .iadd, 0, 0, .null, []) :: (80, .invokestatic 106, 94, 1, .int 0, []) :: (83, .aload_n 0, 0, 0, .null, []) :: (84, .getfield 12, 4, 0, .null, []) :: (87, .iload 6, 0, 0, .null, []) :: (89, .invokevirtual 53, 55, 1, .ref 3, []) :: (92, .invokevirtual 113, 31, 3, .ref 2, []) :: (95, .iload 4, 0, 0, .null, []) :: (97, .aload_n 0, 0, 0, .null, []) :: (98, .getfield 12, 4, 0, .null, []) :: B4_takeRecordApart_101
def B4_takeRecordApart_25 : List am_I := (25, .aload_n 0, 0, 0, .null, []) :: (26, .getfield 26, 4, 2, .null, []) :: (29, .invokevirtual 103, 16, 0, .ref 1, []) :: (32, .iconst 1, 0, 0, .int 1, []) :: (33, .isub, 0, 0, .null, []) :: (34, .istore_n 3, 0, 0, .null, []) :: (35, .iload_n 3, 0, 0, .null, []) :: (36, .invokestatic 106, 94, 1, .int 0, []) :: (39, .istore 4, 0, 0, .null, []) :: (41, .aload_n 0, 0, 0, .null, []) :: (42, .getfield 26, 4, 2, .null, []) :: (45, .iconst 1, 0, 0, .int 1, []) :: (46, .invokevirtual 121, 23, 1, .ref 1, []) :: (49, .iconst 0, 0, 0, .int 0, []) :: (50, .istore 5, 0, 0, .null, []) :: B4_takeRecordApart_52
def B4_takeRecordApart_0 : List am_I := (0, .aload_n 0, 0, 0, .null, []) :: (1, .getfield 12, 4, 0, .null, []) :: (4, .iload_n 1, 0, 0, .null, []) :: (5, .invokevirtual 223, 57, 1, .ref 3, []) :: (8, .istore_n 2, 0, 0, .null, []) :: (9, .aload_n 0, 0, 0, .null, []) :: (10, .getfield 26, 4, 2, .null, []) :: (13, .iload_n 2, 0, 0, .null, []) :: (14, .iconst 1, 0, 0, .int 1, []) :: (15, .isub, 0, 0, .null, []) :: (16, .invokevirtual 93, 18, 1, .ref 1, []) :: (19, .ifCond .ne 6, 25, 0, .null, []) :: (22, .bipush (-2), 0, 0, .int (-2), []) :: (24, .ireturn, 0, 0, .null, []) :: B4_takeRecordApart_25
set_option maxRecDepth 20000 in
theorem vB4_takeRecordApart_124 : am_vl 4 false (some .int) cX4_takeRecordApart B4_takeRecordApart_124 = true := am_vt (tl := []) 2 0 (by decide +kernel) rfl rfl rfl
set_option maxRecDepth 20000 in
theorem vB4_takeRecordApart_101 : am_vl 4 false (some .int) cX4_takeRecordApart B4_takeRecordApart_101 = true := am_vt (tl := B4_takeRecordApart_124) 10 124 (by decide +kernel) rfl rfl vB4_takeRecordApart_124
set_option maxRecDepth 20000 in
theorem vB4_takeRecordApart_52 : am_vl 4 false (some .int) cX4_takeRecordApart B4_takeRecordApart_52 = true := am_vt (tl := B4_takeRecordApart_101) 24 101 (by decide +kernel) rfl rfl vB4_takeRecordApart_101
set_option maxRecDepth 20000 in
theorem vB4_takeRecordApart_25 : am_vl 4 false (some .int) cX4_takeRecordApart B4_takeRecordApart_25 = true := am_vt (tl := B4_takeRecordApart_52) 15 52 (by decide +kernel) rfl rfl vB4_takeRecordApart_52
set_option maxRecDepth 20000 in
theorem vB4_takeRecordApart_0 : am_vl 4 false (some .int) cX4_takeRecordApart B4_takeRecordApart_0 = true := am_vt (tl := B4_takeRecordApart_25) 14 25 (by decide +kernel) rfl rfl vB4_takeRecordApart_25
def B4_takeChoiceApart_36 : List am_I := (36, .aload_n 0, 0, 0, .null, []) :: (37, .getfield 19, 4, 1, .null, []) :: (40, .aload_n 0, 0, 0, .null, []) :: (41, .invokevirtual 131, 97, 0, .ref 4, []) :: (44, .iconst 1, 0, 0, .int 1, []) :: (45, .iadd, 0, 0, .null, []) :: (46, .aload_n 0, 0, 0, .null, []) :: (47, .invokevirtual 131, 97, 0, .ref 4, []) :: (50, .aload_n 0, 0, 0, .null, []) :: (51, .getfield 12, 4, 0, .null, []) :: (54, .iload_n 2, 0, 0, .null, []) :: (55, .invokevirtual 53, 55, 1, .ref 3, []) :: (58, .invokevirtual 113, 31, 3, .ref 2, []) :: (61, .aload_n 0, 0, 0, .null, []) :: (62, .iload_n 2, 0, 0, .null, []) :: (63, .invokevirtual 145, 93, 1, .ref 4, []) :: (66, .iconst 1, 0, 0, .int 1, []) :: (67, .ireturn, 0, 0, .null, []) :: []
def B4_takeChoiceApart_0 : List am_I := (0, .aload_n 0, 0, 0, .null, []) :: (1, .getfield 12, 4, 0, .null, []) :: (4, .iload_n 1, 0, 0, .null, []) :: (5, .aload_n 0, 0, 0, .null, []) :: (6, .getfield 19, 4, 1, .null, []) :: (9, .aload_n 0, 0, 0, .null, []) :: (10, .invokevirtual 131, 97, 0, .ref 4, []) :: (13, .invokevirtual 134, 29, 1, .ref 2, []) :: (16, .l2i, 0, 0, .null, []) :: (17, .invokevirtual 74, 56, 2, .ref 3, []) :: (20, .istore_n 2, 0, 0, .null, []) :: (21, .iload_n 2, 0, 0, .null, []) :: (22, .iconst (-1), 0, 0, .int (-1), []) :: (23, .if_icmp .ne 13, 36, 0, .null, []) :: (26, .aload_n 0, 0, 0, .null, []) :: (27, .getfield 26, 4, 2, .null, []) :: (30, .iconst 1, 0, 0, .int 1, []) :: (31, .invokevirtual 121, 23, 1, .ref 1, []) :: (34, .iconst 0, 0, 0, .int 0, []) :: (35, .ireturn, 0, 0, .null, []) :: B4_takeChoiceApart_36
set_option maxRecDepth 20000 in
theorem vB4_takeChoiceApart_36 : am_vl 4 false (some .int) cX4_takeChoiceApart B4_takeChoiceApart_36 = true := am_vt (tl := []) 18 0 (by decide +kernel) rfl rfl rfl
set_option maxRecDepth 20000 in
theorem vB4_takeChoiceApart_0 : am_vl 4 false (some .int) cX4_takeChoiceApart B4_takeChoiceApart_0 = true := am_vt (tl := B4_takeChoiceApart_36) 20 36 (by decide +kernel) rfl rfl vB4_takeChoiceApart_36
def B4_replaceTopShape_0 : List am_I := (0, .aload_n 0, 0, 0, .null, []) :: (1, .getfield 26, 4, 2, .null, []) :: (4, .iconst 1, 0, 0, .int 1, []) :: (5, .invokevirtual 121, 23, 1, .ref 1, []) :: (8, .aload_n 0, 0, 0, .null, []) :: (9, .getfield 26, 4, 2, .null, []) :: (12, .iload_n 1, 0, 0, .null, []) :: (13, .invokevirtual 125, 22, 1, .ref 1, []) :: (16, .return_, 0, 0, .null, []) :: []
set_option maxRecDepth 20000 in
theorem vB4_replaceTopShape_0 : am_vl 4 false none cX4_replaceTopShape B4_replaceTopShape_0 = true := am_vt (tl := []) 9 0 (by decide +kernel) rfl rfl rfl
def B4_handAt_0 : List am_I := (0, .iconst 0, 0, 0, .int 0, []) :: (1, .iload_n 0, 0, 0, .null, []) :: (2, .bipush 8, 0, 0, .int 8, []) :: (4, .imul, 0, 0, .null, []) :: (5, .iadd, 0, 0, .null, []) :: (6, .ireturn, 0, 0, .null, []) :: []
set_option maxRecDepth 20000 in
theorem vB4_handAt_0 : am_vl 4 false (some .int) cX4_handAt B4_handAt_0 = true := am_vt (tl := []) 6 0 (by decide +kernel) rfl rfl rfl
def B4_slotAt_0 : List am_I := (0, .sipush 192, 0, 0, .int 192, []) :: (3, .iload_n 0, 0, 0, .null, []) :: (4, .bipush 8, 0, 0, .int 8, []) :: (6, .imul, 0, 0, .null, []) :: (7, .iload_n 1, 0, 0, .null, []) :: (8, .iadd, 0, 0, .null, []) :: (9, .bipush 8, 0, 0, .int 8, []) :: (11, .imul, 0, 0, .null, []) :: (12, .iadd, 0, 0, .null, []) :: (13, .ireturn, 0, 0, .null, []) :: []
set_option maxRecDepth 20000 in
theorem vB4_slotAt_0 : am_vl 4 false (some .int) cX4_slotAt B4_slotAt_0 = true := am_vt (tl := []) 10 0 (by decide +kernel) rfl rfl rfl
def B4_isSlot_15 : List am_I := (15, .ireturn, 1, 0, .null, []) :: []
def B4_isSlot_14 : List am_I := (14, .iconst 0, 0, 0, .int 0, []) :: B4_isSlot_15
def B4_isSlot_0 : List am_I := (0, .iload_n 0, 0, 0, .null, []) :: (1, .ifCond .lt 13, 14, 0, .null, []) :: (4, .iload_n 0, 0, 0, .null, []) :: (5, .bipush 8, 0, 0, .int 8, []) :: (7, .if_icmp .ge 7, 14, 0, .null, []) :: (10, .iconst 1, 0, 0, .int 1, []) :: (11, .goto 4, 15, 0, .null, []) :: B4_isSlot_14
set_option maxRecDepth 20000 in
theorem vB4_isSlot_15 : am_vl 4 false (some .boolean) cX4_isSlot B4_isSlot_15 = true := am_vt (tl := []) 1 0 (by decide +kernel) rfl rfl rfl
set_option maxRecDepth 20000 in
theorem vB4_isSlot_14 : am_vl 4 false (some .boolean) cX4_isSlot B4_isSlot_14 = true := am_vt (tl := B4_isSlot_15) 1 15 (by decide +kernel) rfl rfl vB4_isSlot_15
set_option maxRecDepth 20000 in
theorem vB4_isSlot_0 : am_vl 4 false (some .boolean) cX4_isSlot B4_isSlot_0 = true := am_vt (tl := B4_isSlot_14) 7 14 (by decide +kernel) rfl rfl vB4_isSlot_14
def B4_topAt_0 : List am_I := (0, .aload_n 0, 0, 0, .null, []) :: (1, .getfield 26, 4, 2, .null, []) :: (4, .invokevirtual 103, 16, 0, .ref 1, []) :: (7, .iconst 1, 0, 0, .int 1, []) :: (8, .isub, 0, 0, .null, []) :: (9, .invokestatic 106, 94, 1, .int 0, []) :: (12, .ireturn, 0, 0, .null, []) :: []
set_option maxRecDepth 20000 in
theorem vB4_topAt_0 : am_vl 4 false (some .int) cX4_topAt B4_topAt_0 = true := am_vt (tl := []) 7 0 (by decide +kernel) rfl rfl rfl
def B4_seek_84 : List am_I := (84, .iload_n 3, 0, 0, .null, []) :: (85, .ireturn, 0, 0, .null, []) :: []
def B4_seek_49 : List am_I := (49, .iload 5, 0, 0, .null, []) :: (51, .bipush 6, 0, 0, .int 6, []) :: (53, .if_icmp .ge 31, 84, 0, .null, []) :: (56, .iload 4, 0, 0, .null, []) :: (58, .ifCond .eq 26, 84, 0, .null, []) :: (61, .aload_n 0, 0, 0, .null, []) :: (62, .iload_n 3, 0, 0, .null, []) :: (63, .iload 4, 0, 0, .null, []) :: (65, .bipush 15, 0, 0, .int 15, []) :: (67, .iand, 0, 0, .null, []) :: (68, .invokevirtual 233, 99, 2, .ref 4, []) :: (71, .istore_n 3, 0, 0, .null, []) :: (72, .iload 4, 0, 0, .null, []) :: (74, .iconst 4, 0, 0, .int 4, []) :: (75, .ishr, 0, 0, .null, []) :: (76, .istore 4, 0, 0, .null, []) :: (78, .iinc 5 1, 0, 0, .int 1, []) :: (81, .goto (-32), 49, 0, .null, []) :: B4_seek_84
def B4_seek_12 : List am_I := (12, .aload_n 0, 0, 0, .null, []) :: (13, .getfield 26, 4, 2, .null, []) :: (16, .aload_n 0, 0, 0, .null, []) :: (17, .getfield 26, 4, 2, .null, []) :: (20, .invokevirtual 161, 13, 0, .ref 1, []) :: (23, .iload_n 1, 0, 0, .null, []) :: (24, .invokevirtual 164, 24, 2, .ref 1, []) :: (27, .istore_n 3, 0, 0, .null, []) :: (28, .aload_n 0, 0, 0, .null, []) :: (29, .aload_n 0, 0, 0, .null, []) :: (30, .getfield 26, 4, 2, .null, []) :: (33, .invokevirtual 161, 13, 0, .ref 1, []) :: (36, .iload_n 1, 0, 0, .null, []) :: (37, .invokestatic 167, 95, 2, .int 0, []) :: (40, .putfield 43, 4, 5, .null, []) :: (43, .iload_n 2, 0, 0, .null, []) :: (44, .istore 4, 0, 0, .null, []) :: (46, .iconst 0, 0, 0, .int 0, []) :: (47, .istore 5, 0, 0, .null, []) :: B4_seek_49
def B4_seek_10 : List am_I := (10, .iconst (-1), 0, 0, .int (-1), []) :: (11, .ireturn, 0, 0, .null, []) :: B4_seek_12
def B4_seek_0 : List am_I := (0, .iload_n 2, 0, 0, .null, []) :: (1, .ifCond .lt 9, 10, 0, .null, []) :: (4, .iload_n 2, 0, 0, .null, []) :: (5, .ldc 232, 0, 0, .int 16777215, []) :: (7, .if_icmp .le 5, 12, 0, .null, []) :: B4_seek_10
set_option maxRecDepth 20000 in
theorem vB4_seek_84 : am_vl 4 false (some .int) cX4_seek B4_seek_84 = true := am_vt (tl := []) 2 0 (by decide +kernel) rfl rfl rfl
set_option maxRecDepth 20000 in
theorem vB4_seek_49 : am_vl 4 false (some .int) cX4_seek B4_seek_49 = true := am_vt (tl := B4_seek_84) 18 84 (by decide +kernel) rfl rfl vB4_seek_84
set_option maxRecDepth 20000 in
theorem vB4_seek_12 : am_vl 4 false (some .int) cX4_seek B4_seek_12 = true := am_vt (tl := B4_seek_49) 19 49 (by decide +kernel) rfl rfl vB4_seek_49
set_option maxRecDepth 20000 in
theorem vB4_seek_10 : am_vl 4 false (some .int) cX4_seek B4_seek_10 = true := am_vt (tl := B4_seek_12) 2 12 (by decide +kernel) rfl rfl vB4_seek_12
set_option maxRecDepth 20000 in
theorem vB4_seek_0 : am_vl 4 false (some .int) cX4_seek B4_seek_0 = true := am_vt (tl := B4_seek_10) 5 10 (by decide +kernel) rfl rfl vB4_seek_10
def B4_step_94 : List am_I := (94, .iconst (-1), 0, 0, .int (-1), []) :: (95, .ireturn, 0, 0, .null, []) :: []
def B4_step_84 : List am_I := (84, .aload_n 0, 0, 0, .null, []) :: (85, .iload_n 1, 0, 0, .null, []) :: (86, .iload_n 2, 0, 0, .null, []) :: (87, .bipush 8, 0, 0, .int 8, []) :: (89, .isub, 0, 0, .null, []) :: (90, .invokevirtual 245, 103, 2, .ref 4, []) :: (93, .ireturn, 0, 0, .null, []) :: B4_step_94
def B4_step_83 : List am_I := (83, .ireturn, 0, 0, .null, []) :: B4_step_84
def B4_step_82 : List am_I := (82, .iconst (-1), 0, 0, .int (-1), []) :: B4_step_83
def B4_step_69 : List am_I := (69, .iload_n 2, 0, 0, .null, []) :: (70, .iconst 5, 0, 0, .int 5, []) :: (71, .if_icmp .ne 11, 82, 0, .null, []) :: (74, .aload_n 0, 0, 0, .null, []) :: (75, .iload_n 1, 0, 0, .null, []) :: (76, .invokevirtual 242, 102, 1, .ref 4, []) :: (79, .goto 4, 83, 0, .null, []) :: B4_step_82
def B4_step_68 : List am_I := (68, .ireturn, 0, 0, .null, []) :: B4_step_69
def B4_step_67 : List am_I := (67, .iconst (-1), 0, 0, .int (-1), []) :: B4_step_68
def B4_step_53 : List am_I := (53, .iload_n 2, 0, 0, .null, []) :: (54, .bipush 6, 0, 0, .int 6, []) :: (56, .if_icmp .ne 11, 67, 0, .null, []) :: (59, .aload_n 0, 0, 0, .null, []) :: (60, .iload_n 1, 0, 0, .null, []) :: (61, .invokevirtual 239, 101, 1, .ref 4, []) :: (64, .goto 4, 68, 0, .null, []) :: B4_step_67
def B4_step_44 : List am_I := (44, .aload_n 0, 0, 0, .null, []) :: (45, .iload_n 1, 0, 0, .null, []) :: (46, .iload_n 2, 0, 0, .null, []) :: (47, .iconst 1, 0, 0, .int 1, []) :: (48, .isub, 0, 0, .null, []) :: (49, .invokevirtual 236, 100, 2, .ref 4, []) :: (52, .ireturn, 0, 0, .null, []) :: B4_step_53
def B4_step_0 : List am_I := (0, .aload_n 0, 0, 0, .null, []) :: (1, .getfield 12, 4, 0, .null, []) :: (4, .iload_n 1, 0, 0, .null, []) :: (5, .invokevirtual 71, 54, 1, .ref 3, []) :: (8, .tableswitch 86 1 5 #[36, 36, 45, 61, 76], 94, 0, .null, [(1, 44), (2, 44), (3, 53), (4, 69), (5, 84)]) :: B4_step_44
set_option maxRecDepth 20000 in
theorem vB4_step_94 : am_vl 4 false (some .int) cX4_step B4_step_94 = true := am_vt (tl := []) 2 0 (by decide +kernel) rfl rfl rfl
set_option maxRecDepth 20000 in
theorem vB4_step_84 : am_vl 4 false (some .int) cX4_step B4_step_84 = true := am_vt (tl := B4_step_94) 7 94 (by decide +kernel) rfl rfl vB4_step_94
set_option maxRecDepth 20000 in
theorem vB4_step_83 : am_vl 4 false (some .int) cX4_step B4_step_83 = true := am_vt (tl := B4_step_84) 1 84 (by decide +kernel) rfl rfl vB4_step_84
set_option maxRecDepth 20000 in
theorem vB4_step_82 : am_vl 4 false (some .int) cX4_step B4_step_82 = true := am_vt (tl := B4_step_83) 1 83 (by decide +kernel) rfl rfl vB4_step_83
set_option maxRecDepth 20000 in
theorem vB4_step_69 : am_vl 4 false (some .int) cX4_step B4_step_69 = true := am_vt (tl := B4_step_82) 7 82 (by decide +kernel) rfl rfl vB4_step_82
set_option maxRecDepth 20000 in
theorem vB4_step_68 : am_vl 4 false (some .int) cX4_step B4_step_68 = true := am_vt (tl := B4_step_69) 1 69 (by decide +kernel) rfl rfl vB4_step_69
set_option maxRecDepth 20000 in
theorem vB4_step_67 : am_vl 4 false (some .int) cX4_step B4_step_67 = true := am_vt (tl := B4_step_68) 1 68 (by decide +kernel) rfl rfl vB4_step_68
set_option maxRecDepth 20000 in
theorem vB4_step_53 : am_vl 4 false (some .int) cX4_step B4_step_53 = true := am_vt (tl := B4_step_67) 7 67 (by decide +kernel) rfl rfl vB4_step_67
set_option maxRecDepth 20000 in
theorem vB4_step_44 : am_vl 4 false (some .int) cX4_step B4_step_44 = true := am_vt (tl := B4_step_53) 7 53 (by decide +kernel) rfl rfl vB4_step_53
set_option maxRecDepth 20000 in
theorem vB4_step_0 : am_vl 4 false (some .int) cX4_step B4_step_0 = true := am_vt (tl := B4_step_44) 5 44 (by decide +kernel) rfl rfl vB4_step_44
def B4_stepToField_0 : List am_I := (0, .aload_n 0, 0, 0, .null, []) :: (1, .dup, 0, 0, .null, []) :: (2, .getfield 43, 4, 5, .null, []) :: (5, .aload_n 0, 0, 0, .null, []) :: (6, .getfield 12, 4, 0, .null, []) :: (9, .iload_n 1, 0, 0, .null, []) :: (10, .iload_n 2, 0, 0, .null, []) :: (11, .invokevirtual 248, 58, 2, .ref 3, []) :: (14, .iadd, 0, 0, .null, []) :: (15, .putfield 43, 4, 5, .null, []) :: (18, .aload_n 0, 0, 0, .null, []) :: (19, .getfield 12, 4, 0, .null, []) :: (22, .iload_n 1, 0, 0, .null, []) :: (23, .iload_n 2, 0, 0, .null, []) :: (24, .invokevirtual 74, 56, 2, .ref 3, []) :: (27, .ireturn, 0, 0, .null, []) :: []
set_option maxRecDepth 20000 in
theorem vB4_stepToField_0 : am_vl 4 false (some .int) cX4_stepToField B4_stepToField_0 = true := am_vt (tl := []) 16 0 (by decide +kernel) rfl rfl rfl
def B4_stepToPart_0 : List am_I := (0, .aload_n 0, 0, 0, .null, []) :: (1, .getfield 12, 4, 0, .null, []) :: (4, .iload_n 1, 0, 0, .null, []) :: (5, .aload_n 0, 0, 0, .null, []) :: (6, .getfield 19, 4, 1, .null, []) :: (9, .aload_n 0, 0, 0, .null, []) :: (10, .getfield 43, 4, 5, .null, []) :: (13, .invokevirtual 134, 29, 1, .ref 2, []) :: (16, .l2i, 0, 0, .null, []) :: (17, .invokevirtual 74, 56, 2, .ref 3, []) :: (20, .istore_n 2, 0, 0, .null, []) :: (21, .aload_n 0, 0, 0, .null, []) :: (22, .dup, 0, 0, .null, []) :: (23, .getfield 43, 4, 5, .null, []) :: (26, .iconst 1, 0, 0, .int 1, []) :: (27, .iadd, 0, 0, .null, []) :: (28, .putfield 43, 4, 5, .null, []) :: (31, .iload_n 2, 0, 0, .null, []) :: (32, .ireturn, 0, 0, .null, []) :: []
set_option maxRecDepth 20000 in
theorem vB4_stepToPart_0 : am_vl 4 false (some .int) cX4_stepToPart B4_stepToPart_0 = true := am_vt (tl := []) 19 0 (by decide +kernel) rfl rfl rfl
def B4_stepIntoBox_0 : List am_I := (0, .aload_n 0, 0, 0, .null, []) :: (1, .aload_n 0, 0, 0, .null, []) :: (2, .getfield 19, 4, 1, .null, []) :: (5, .aload_n 0, 0, 0, .null, []) :: (6, .getfield 19, 4, 1, .null, []) :: (9, .aload_n 0, 0, 0, .null, []) :: (10, .getfield 43, 4, 5, .null, []) :: (13, .invokevirtual 134, 29, 1, .ref 2, []) :: (16, .invokevirtual 138, 43, 1, .ref 2, []) :: (19, .putfield 43, 4, 5, .null, []) :: (22, .aload_n 0, 0, 0, .null, []) :: (23, .getfield 12, 4, 0, .null, []) :: (26, .iload_n 1, 0, 0, .null, []) :: (27, .iconst 0, 0, 0, .int 0, []) :: (28, .invokevirtual 74, 56, 2, .ref 3, []) :: (31, .ireturn, 0, 0, .null, []) :: []
set_option maxRecDepth 20000 in
theorem vB4_stepIntoBox_0 : am_vl 4 false (some .int) cX4_stepIntoBox B4_stepIntoBox_0 = true := am_vt (tl := []) 16 0 (by decide +kernel) rfl rfl rfl
def B4_stepToElement_30 : List am_I := (30, .aload_n 0, 0, 0, .null, []) :: (31, .aload_n 0, 0, 0, .null, []) :: (32, .getfield 19, 4, 1, .null, []) :: (35, .lload_n 3, 0, 0, .null, []) :: (36, .iload_n 2, 0, 0, .null, []) :: (37, .invokevirtual 182, 45, 2, .ref 2, []) :: (40, .putfield 43, 4, 5, .null, []) :: (43, .aload_n 0, 0, 0, .null, []) :: (44, .getfield 12, 4, 0, .null, []) :: (47, .iload_n 1, 0, 0, .null, []) :: (48, .iconst 0, 0, 0, .int 0, []) :: (49, .invokevirtual 74, 56, 2, .ref 3, []) :: (52, .ireturn, 0, 0, .null, []) :: []
def B4_stepToElement_28 : List am_I := (28, .iconst (-1), 0, 0, .int (-1), []) :: (29, .ireturn, 0, 0, .null, []) :: B4_stepToElement_30
def B4_stepToElement_0 : List am_I := (0, .aload_n 0, 0, 0, .null, []) :: (1, .getfield 19, 4, 1, .null, []) :: (4, .aload_n 0, 0, 0, .null, []) :: (5, .getfield 43, 4, 5, .null, []) :: (8, .invokevirtual 134, 29, 1, .ref 2, []) :: (11, .lstore_n 3, 0, 0, .null, []) :: (12, .iload_n 2, 0, 0, .null, []) :: (13, .ifCond .lt 15, 28, 0, .null, []) :: (16, .iload_n 2, 0, 0, .null, []) :: (17, .aload_n 0, 0, 0, .null, []) :: (18, .getfield 19, 4, 1, .null, []) :: (21, .lload_n 3, 0, 0, .null, []) :: (22, .invokevirtual 179, 46, 1, .ref 2, []) :: (25, .if_icmp .lt 5, 30, 0, .null, []) :: B4_stepToElement_28
set_option maxRecDepth 20000 in
theorem vB4_stepToElement_30 : am_vl 4 false (some .int) cX4_stepToElement B4_stepToElement_30 = true := am_vt (tl := []) 13 0 (by decide +kernel) rfl rfl rfl
set_option maxRecDepth 20000 in
theorem vB4_stepToElement_28 : am_vl 4 false (some .int) cX4_stepToElement B4_stepToElement_28 = true := am_vt (tl := B4_stepToElement_30) 2 30 (by decide +kernel) rfl rfl vB4_stepToElement_30
set_option maxRecDepth 20000 in
theorem vB4_stepToElement_0 : am_vl 4 false (some .int) cX4_stepToElement B4_stepToElement_0 = true := am_vt (tl := B4_stepToElement_28) 14 28 (by decide +kernel) rfl rfl vB4_stepToElement_28
def B4_endLastFrame_119 : List am_I := (119, .aload_n 0, 0, 0, .null, []) :: (120, .getfield 26, 4, 2, .null, []) :: (123, .aload_n 0, 0, 0, .null, []) :: (124, .getfield 26, 4, 2, .null, []) :: (127, .invokevirtual 190, 17, 0, .ref 1, []) :: (130, .invokevirtual 121, 23, 1, .ref 1, []) :: (133, .aload_n 0, 0, 0, .null, []) :: (134, .getfield 26, 4, 2, .null, []) :: (137, .invokevirtual 251, 15, 0, .ref 1, []) :: (140, .return_, 0, 0, .null, []) :: []
def B4_endLastFrame_74 : List am_I := (74, .iload 4, 0, 0, .null, []) :: (76, .ifCond .lt 43, 119, 0, .null, []) :: (79, .aload_n 0, 0, 0, .null, []) :: (80, .getfield 35, 4, 3, .null, []) :: (83, .aload_n 0, 0, 0, .null, []) :: (84, .getfield 26, 4, 2, .null, []) :: (87, .iload_n 2, 0, 0, .null, []) :: (88, .iload 4, 0, 0, .null, []) :: (90, .invokevirtual 164, 24, 2, .ref 1, []) :: (93, .iload_n 2, 0, 0, .null, []) :: (94, .iload 4, 0, 0, .null, []) :: (96, .invokestatic 167, 95, 2, .int 0, []) :: (99, .invokevirtual 154, 4, 2, .ref 0, []) :: (102, .aload_n 0, 0, 0, .null, []) :: (103, .getfield 26, 4, 2, .null, []) :: (106, .iload_n 2, 0, 0, .null, []) :: (107, .iload 4, 0, 0, .null, []) :: (109, .iconst (-1), 0, 0, .int (-1), []) :: (110, .invokevirtual 170, 25, 3, .ref 1, []) :: (113, .iinc 4 (-1), 0, 0, .int (-1), []) :: (116, .goto (-42), 74, 0, .null, []) :: B4_endLastFrame_119
def B4_endLastFrame_70 : List am_I := (70, .bipush 7, 0, 0, .int 7, []) :: (72, .istore 4, 0, 0, .null, []) :: B4_endLastFrame_74
def B4_endLastFrame_37 : List am_I := (37, .iload 4, 0, 0, .null, []) :: (39, .iload_n 3, 0, 0, .null, []) :: (40, .if_icmp .lt 30, 70, 0, .null, []) :: (43, .aload_n 0, 0, 0, .null, []) :: (44, .getfield 35, 4, 3, .null, []) :: (47, .aload_n 0, 0, 0, .null, []) :: (48, .getfield 26, 4, 2, .null, []) :: (51, .iload 4, 0, 0, .null, []) :: (53, .invokevirtual 196, 19, 1, .ref 1, []) :: (56, .iload 4, 0, 0, .null, []) :: (58, .invokestatic 106, 94, 1, .int 0, []) :: (61, .invokevirtual 154, 4, 2, .ref 0, []) :: (64, .iinc 4 (-1), 0, 0, .int (-1), []) :: (67, .goto (-30), 37, 0, .null, []) :: B4_endLastFrame_70
def B4_endLastFrame_0 : List am_I := (0, .aload_n 0, 0, 0, .null, []) :: (1, .getfield 26, 4, 2, .null, []) :: (4, .invokevirtual 161, 13, 0, .ref 1, []) :: (7, .istore_n 2, 0, 0, .null, []) :: (8, .aload_n 0, 0, 0, .null, []) :: (9, .getfield 26, 4, 2, .null, []) :: (12, .invokevirtual 103, 16, 0, .ref 1, []) :: (15, .aload_n 0, 0, 0, .null, []) :: (16, .getfield 26, 4, 2, .null, []) :: (19, .invokevirtual 190, 17, 0, .ref 1, []) :: (22, .isub, 0, 0, .null, []) :: (23, .istore_n 3, 0, 0, .null, []) :: (24, .aload_n 0, 0, 0, .null, []) :: (25, .getfield 26, 4, 2, .null, []) :: (28, .invokevirtual 103, 16, 0, .ref 1, []) :: (31, .iconst 1, 0, 0, .int 1, []) :: (32, .isub, 0, 0, .null, []) :: (33, .iload_n 1, 0, 0, .null, []) :: (34, .isub, 0, 0, .null, []) :: (35, .istore 4, 0, 0, .null, []) :: B4_endLastFrame_37
set_option maxRecDepth 20000 in
theorem vB4_endLastFrame_119 : am_vl 4 false none cX4_endLastFrame B4_endLastFrame_119 = true := am_vt (tl := []) 10 0 (by decide +kernel) rfl rfl rfl
set_option maxRecDepth 20000 in
theorem vB4_endLastFrame_74 : am_vl 4 false none cX4_endLastFrame B4_endLastFrame_74 = true := am_vt (tl := B4_endLastFrame_119) 21 119 (by decide +kernel) rfl rfl vB4_endLastFrame_119
set_option maxRecDepth 20000 in
theorem vB4_endLastFrame_70 : am_vl 4 false none cX4_endLastFrame B4_endLastFrame_70 = true := am_vt (tl := B4_endLastFrame_74) 2 74 (by decide +kernel) rfl rfl vB4_endLastFrame_74
set_option maxRecDepth 20000 in
theorem vB4_endLastFrame_37 : am_vl 4 false none cX4_endLastFrame B4_endLastFrame_37 = true := am_vt (tl := B4_endLastFrame_70) 14 70 (by decide +kernel) rfl rfl vB4_endLastFrame_70
set_option maxRecDepth 20000 in
theorem vB4_endLastFrame_0 : am_vl 4 false none cX4_endLastFrame B4_endLastFrame_0 = true := am_vt (tl := B4_endLastFrame_37) 20 37 (by decide +kernel) rfl rfl vB4_endLastFrame_37
end
section
def B5_init_131 : List am_I := (131, .return_, 0, 0, .null, []) :: []
def B5_init_112 : List am_I := (112, .iload_n 1, 0, 0, .null, []) :: (113, .bipush 72, 0, 0, .int 72, []) :: (115, .if_icmp .ge 16, 131, 0, .null, []) :: (118, .aload_n 0, 0, 0, .null, []) :: (119, .getfield 16, 5, 2, .null, []) :: (122, .iload_n 1, 0, 0, .null, []) :: (123, .iconst (-1), 0, 0, .int (-1), []) :: (124, .iastore, 0, 0, .null, []) :: (125, .iinc 1 1, 0, 0, .int 1, []) :: (128, .goto (-16), 112, 0, .null, []) :: B5_init_131
def B5_init_95 : List am_I := (95, .sipush 400, 0, 0, .int 400, []) :: (98, .newarray .long, 0, 0, .null, []) :: (100, .putfield 48, 5, 14, .null, []) :: (103, .aload_n 0, 0, 0, .null, []) :: (104, .getfield 13, 5, 1, .null, []) :: (107, .iconst 0, 0, 0, .int 0, []) :: (108, .iconst 1, 0, 0, .int 1, []) :: (109, .iastore, 0, 0, .null, []) :: (110, .iconst 0, 0, 0, .int 0, []) :: (111, .istore_n 1, 0, 0, .null, []) :: B5_init_112
def B5_init_48 : List am_I := (48, .putfield 26, 5, 5, .null, []) :: (51, .aload_n 0, 0, 0, .null, []) :: (52, .sipush 256, 0, 0, .int 256, []) :: (55, .newarray .long, 0, 0, .null, []) :: (57, .putfield 29, 5, 6, .null, []) :: (60, .aload_n 0, 0, 0, .null, []) :: (61, .iconst 1, 0, 0, .int 1, []) :: (62, .putfield 33, 5, 7, .null, []) :: (65, .aload_n 0, 0, 0, .null, []) :: (66, .bipush 24, 0, 0, .int 24, []) :: (68, .newarray .int, 0, 0, .null, []) :: (70, .putfield 36, 5, 9, .null, []) :: (73, .aload_n 0, 0, 0, .null, []) :: (74, .bipush 96, 0, 0, .int 96, []) :: (76, .newarray .int, 0, 0, .null, []) :: (78, .putfield 39, 5, 10, .null, []) :: (81, .aload_n 0, 0, 0, .null, []) :: (82, .bipush 13, 0, 0, .int 13, []) :: (84, .newarray .int, 0, 0, .null, []) :: (86, .putfield 42, 5, 11, .null, []) :: (89, .aload_n 0, 0, 0, .null, []) :: (90, .iconst 1, 0, 0, .int 1, []) :: (91, .putfield 45, 5, 13, .null, []) :: (94, .aload_n 0, 0, 0, .null, []) :: B5_init_95
def B5_init_0 : List am_I := (0, .aload_n 0, 0, 0, .null, []) :: (1, .invokespecial 1, 0, 0, .null, []) :: (4, .aload_n 0, 0, 0, .null, []) :: (5, .bipush 24, 0, 0, .int 24, []) :: (7, .newarray .int, 0, 0, .null, []) :: (9, .putfield 7, 5, 0, .null, []) :: (12, .aload_n 0, 0, 0, .null, []) :: (13, .bipush 24, 0, 0, .int 24, []) :: (15, .newarray .int, 0, 0, .null, []) :: (17, .putfield 13, 5, 1, .null, []) :: (20, .aload_n 0, 0, 0, .null, []) :: (21, .bipush 72, 0, 0, .int 72, []) :: (23, .newarray .int, 0, 0, .null, []) :: (25, .putfield 16, 5, 2, .null, []) :: (28, .aload_n 0, 0, 0, .null, []) :: (29, .iconst 1, 0, 0, .int 1, []) :: (30, .putfield 19, 5, 3, .null, []) :: (33, .aload_n 0, 0, 0, .null, []) :: (34, .sipush 256, 0, 0, .int 256, []) :: (37, .newarray .int, 0, 0, .null, []) :: (39, .putfield 23, 5, 4, .null, []) :: (42, .aload_n 0, 0, 0, .null, []) :: (43, .sipush 2048, 0, 0, .int 2048, []) :: (46, .newarray .int, 0, 0, .null, []) :: B5_init_48
set_option maxRecDepth 20000 in
theorem vB5_init_131 : am_vl 5 true none cX5_init B5_init_131 = true := am_vt (tl := []) 1 0 (by decide +kernel) rfl rfl rfl
set_option maxRecDepth 20000 in
theorem vB5_init_112 : am_vl 5 true none cX5_init B5_init_112 = true := am_vt (tl := B5_init_131) 10 131 (by decide +kernel) rfl rfl vB5_init_131
set_option maxRecDepth 20000 in
theorem vB5_init_95 : am_vl 5 true none cX5_init B5_init_95 = true := am_vt (tl := B5_init_112) 10 112 (by decide +kernel) rfl rfl vB5_init_112
set_option maxRecDepth 20000 in
theorem vB5_init_48 : am_vl 5 true none cX5_init B5_init_48 = true := am_vt (tl := B5_init_95) 24 95 (by decide +kernel) rfl rfl vB5_init_95
set_option maxRecDepth 20000 in
theorem vB5_init_0 : am_vl 5 true none cX5_init B5_init_0 = true := am_vt (tl := B5_init_48) 24 48 (by decide +kernel) rfl rfl vB5_init_48
def B5_in_15 : List am_I := (15, .ireturn, 1, 0, .null, []) :: []
def B5_in_14 : List am_I := (14, .iconst 0, 0, 0, .int 0, []) :: B5_in_15
def B5_in_0 : List am_I := (0, .iload_n 0, 0, 0, .null, []) :: (1, .iload_n 1, 0, 0, .null, []) :: (2, .if_icmp .lt 12, 14, 0, .null, []) :: (5, .iload_n 0, 0, 0, .null, []) :: (6, .iload_n 2, 0, 0, .null, []) :: (7, .if_icmp .gt 7, 14, 0, .null, []) :: (10, .iconst 1, 0, 0, .int 1, []) :: (11, .goto 4, 15, 0, .null, []) :: B5_in_14
set_option maxRecDepth 20000 in
theorem vB5_in_15 : am_vl 5 false (some .boolean) cX5_in B5_in_15 = true := am_vt (tl := []) 1 0 (by decide +kernel) rfl rfl rfl
set_option maxRecDepth 20000 in
theorem vB5_in_14 : am_vl 5 false (some .boolean) cX5_in B5_in_14 = true := am_vt (tl := B5_in_15) 1 15 (by decide +kernel) rfl rfl vB5_in_15
set_option maxRecDepth 20000 in
theorem vB5_in_0 : am_vl 5 false (some .boolean) cX5_in B5_in_0 = true := am_vt (tl := B5_in_14) 8 14 (by decide +kernel) rfl rfl vB5_in_14
def B5_isShape_0 : List am_I := (0, .iload_n 1, 0, 0, .null, []) :: (1, .iconst 0, 0, 0, .int 0, []) :: (2, .aload_n 0, 0, 0, .null, []) :: (3, .getfield 19, 5, 3, .null, []) :: (6, .iconst 1, 0, 0, .int 1, []) :: (7, .isub, 0, 0, .null, []) :: (8, .invokestatic 51, 106, 3, .int 0, []) :: (11, .ireturn, 1, 0, .null, []) :: []
set_option maxRecDepth 20000 in
theorem vB5_isShape_0 : am_vl 5 false (some .boolean) cX5_isShape B5_isShape_0 = true := am_vt (tl := []) 8 0 (by decide +kernel) rfl rfl rfl
def B5_come_93 : List am_I := (93, .iconst 1, 0, 0, .int 1, []) :: (94, .isub, 0, 0, .null, []) :: (95, .ireturn, 0, 0, .null, []) :: []
def B5_come_55 : List am_I := (55, .getfield 19, 5, 3, .null, []) :: (58, .imul, 0, 0, .null, []) :: (59, .iconst 1, 0, 0, .int 1, []) :: (60, .iadd, 0, 0, .null, []) :: (61, .iload 4, 0, 0, .null, []) :: (63, .iastore, 0, 0, .null, []) :: (64, .aload_n 0, 0, 0, .null, []) :: (65, .getfield 16, 5, 2, .null, []) :: (68, .iconst 3, 0, 0, .int 3, []) :: (69, .aload_n 0, 0, 0, .null, []) :: (70, .getfield 19, 5, 3, .null, []) :: (73, .imul, 0, 0, .null, []) :: (74, .iconst 2, 0, 0, .int 2, []) :: (75, .iadd, 0, 0, .null, []) :: (76, .iload 5, 0, 0, .null, []) :: (78, .iastore, 0, 0, .null, []) :: (79, .aload_n 0, 0, 0, .null, []) :: (80, .dup, 0, 0, .null, []) :: (81, .getfield 19, 5, 3, .null, []) :: (84, .iconst 1, 0, 0, .int 1, []) :: (85, .iadd, 0, 0, .null, []) :: (86, .putfield 19, 5, 3, .null, []) :: (89, .aload_n 0, 0, 0, .null, []) :: (90, .getfield 19, 5, 3, .null, []) :: B5_come_93
def B5_come_17 : List am_I := (17, .aload_n 0, 0, 0, .null, []) :: (18, .getfield 7, 5, 0, .null, []) :: (21, .aload_n 0, 0, 0, .null, []) :: (22, .getfield 19, 5, 3, .null, []) :: (25, .iload_n 1, 0, 0, .null, []) :: (26, .iastore, 0, 0, .null, []) :: (27, .aload_n 0, 0, 0, .null, []) :: (28, .getfield 13, 5, 1, .null, []) :: (31, .aload_n 0, 0, 0, .null, []) :: (32, .getfield 19, 5, 3, .null, []) :: (35, .iload_n 2, 0, 0, .null, []) :: (36, .iastore, 0, 0, .null, []) :: (37, .aload_n 0, 0, 0, .null, []) :: (38, .getfield 16, 5, 2, .null, []) :: (41, .iconst 3, 0, 0, .int 3, []) :: (42, .aload_n 0, 0, 0, .null, []) :: (43, .getfield 19, 5, 3, .null, []) :: (46, .imul, 0, 0, .null, []) :: (47, .iload_n 3, 0, 0, .null, []) :: (48, .iastore, 0, 0, .null, []) :: (49, .aload_n 0, 0, 0, .null, []) :: (50, .getfield 16, 5, 2, .null, []) :: (53, .iconst 3, 0, 0, .int 3, []) :: (54, .aload_n 0, 0, 0, .null, []) :: B5_come_55
def B5_come_15 : List am_I := (15, .iconst (-1), 0, 0, .int (-1), []) :: (16, .ireturn, 0, 0, .null, []) :: B5_come_17
def B5_come_0 : List am_I := (0, .aload_n 0, 0, 0, .null, []) :: (1, .getfield 19, 5, 3, .null, []) :: (4, .bipush 24, 0, 0, .int 24, []) :: (6, .if_icmp .eq 9, 15, 0, .null, []) :: (9, .iload_n 2, 0, 0, .null, []) :: (10, .bipush 8, 0, 0, .int 8, []) :: (12, .if_icmp .le 5, 17, 0, .null, []) :: B5_come_15
set_option maxRecDepth 20000 in
theorem vB5_come_93 : am_vl 5 false (some .int) cX5_come B5_come_93 = true := am_vt (tl := []) 3 0 (by decide +kernel) rfl rfl rfl
set_option maxRecDepth 20000 in
theorem vB5_come_55 : am_vl 5 false (some .int) cX5_come B5_come_55 = true := am_vt (tl := B5_come_93) 24 93 (by decide +kernel) rfl rfl vB5_come_93
set_option maxRecDepth 20000 in
theorem vB5_come_17 : am_vl 5 false (some .int) cX5_come B5_come_17 = true := am_vt (tl := B5_come_55) 24 55 (by decide +kernel) rfl rfl vB5_come_55
set_option maxRecDepth 20000 in
theorem vB5_come_15 : am_vl 5 false (some .int) cX5_come B5_come_15 = true := am_vt (tl := B5_come_17) 2 17 (by decide +kernel) rfl rfl vB5_come_17
set_option maxRecDepth 20000 in
theorem vB5_come_0 : am_vl 5 false (some .int) cX5_come B5_come_0 = true := am_vt (tl := B5_come_15) 7 15 (by decide +kernel) rfl rfl vB5_come_15
def B5_sizeOf_15 : List am_I := (15, .ireturn, 0, 0, .null, []) :: []
def B5_sizeOf_9 : List am_I := (9, .aload_n 0, 0, 0, .null, []) :: (10, .getfield 13, 5, 1, .null, []) :: (13, .iload_n 1, 0, 0, .null, []) :: (14, .iaload, 0, 0, .null, []) :: B5_sizeOf_15
def B5_sizeOf_0 : List am_I := (0, .iload_n 1, 0, 0, .null, []) :: (1, .iconst (-1), 0, 0, .int (-1), []) :: (2, .if_icmp .ne 7, 9, 0, .null, []) :: (5, .iconst 0, 0, 0, .int 0, []) :: (6, .goto 9, 15, 0, .null, []) :: B5_sizeOf_9
set_option maxRecDepth 20000 in
theorem vB5_sizeOf_15 : am_vl 5 false (some .int) cX5_sizeOf B5_sizeOf_15 = true := am_vt (tl := []) 1 0 (by decide +kernel) rfl rfl rfl
set_option maxRecDepth 20000 in
theorem vB5_sizeOf_9 : am_vl 5 false (some .int) cX5_sizeOf B5_sizeOf_9 = true := am_vt (tl := B5_sizeOf_15) 4 15 (by decide +kernel) rfl rfl vB5_sizeOf_15
set_option maxRecDepth 20000 in
theorem vB5_sizeOf_0 : am_vl 5 false (some .int) cX5_sizeOf B5_sizeOf_0 = true := am_vt (tl := B5_sizeOf_9) 5 9 (by decide +kernel) rfl rfl vB5_sizeOf_9
def B5_record_74 : List am_I := (74, .aload_n 0, 0, 0, .null, []) :: (75, .getfield 13, 5, 1, .null, []) :: (78, .iload_n 2, 0, 0, .null, []) :: (79, .iaload, 0, 0, .null, []) :: (80, .aload_n 0, 0, 0, .null, []) :: (81, .iload_n 3, 0, 0, .null, []) :: (82, .invokevirtual 59, 109, 1, .ref 5, []) :: (85, .iadd, 0, 0, .null, []) :: (86, .aload_n 0, 0, 0, .null, []) :: (87, .iload 4, 0, 0, .null, []) :: (89, .invokevirtual 59, 109, 1, .ref 5, []) :: (92, .iadd, 0, 0, .null, []) :: (93, .iload_n 2, 0, 0, .null, []) :: (94, .iload_n 3, 0, 0, .null, []) :: (95, .iload 4, 0, 0, .null, []) :: (97, .invokevirtual 63, 108, 5, .ref 5, []) :: (100, .ireturn, 0, 0, .null, []) :: []
def B5_record_73 : List am_I := (73, .iconst 1, 0, 0, .int 1, []) :: B5_record_74
def B5_record_64 : List am_I := (64, .aload_n 0, 0, 0, .null, []) :: (65, .iload_n 1, 0, 0, .null, []) :: (66, .ifCond .eq 7, 73, 0, .null, []) :: (69, .iconst 2, 0, 0, .int 2, []) :: (70, .goto 4, 74, 0, .null, []) :: B5_record_73
def B5_record_49 : List am_I := (49, .iload_n 1, 0, 0, .null, []) :: (50, .ifCond .eq 14, 64, 0, .null, []) :: (53, .aload_n 0, 0, 0, .null, []) :: (54, .getfield 7, 5, 0, .null, []) :: (57, .iload_n 2, 0, 0, .null, []) :: (58, .iaload, 0, 0, .null, []) :: (59, .ifCond .eq 5, 64, 0, .null, []) :: (62, .iconst (-1), 0, 0, .int (-1), []) :: (63, .ireturn, 0, 0, .null, []) :: B5_record_64
def B5_record_47 : List am_I := (47, .iconst (-1), 0, 0, .int (-1), []) :: (48, .ireturn, 0, 0, .null, []) :: B5_record_49
def B5_record_36 : List am_I := (36, .iload_n 3, 0, 0, .null, []) :: (37, .iconst (-1), 0, 0, .int (-1), []) :: (38, .if_icmp .ne 11, 49, 0, .null, []) :: (41, .iload 4, 0, 0, .null, []) :: (43, .iconst (-1), 0, 0, .int (-1), []) :: (44, .if_icmp .eq 5, 49, 0, .null, []) :: B5_record_47
def B5_record_21 : List am_I := (21, .iload 4, 0, 0, .null, []) :: (23, .iconst (-1), 0, 0, .int (-1), []) :: (24, .if_icmp .eq 12, 36, 0, .null, []) :: (27, .aload_n 0, 0, 0, .null, []) :: (28, .iload 4, 0, 0, .null, []) :: (30, .invokevirtual 55, 107, 1, .ref 5, []) :: (33, .ifCond .eq 14, 47, 0, .null, []) :: B5_record_36
def B5_record_0 : List am_I := (0, .aload_n 0, 0, 0, .null, []) :: (1, .iload_n 2, 0, 0, .null, []) :: (2, .invokevirtual 55, 107, 1, .ref 5, []) :: (5, .ifCond .eq 42, 47, 0, .null, []) :: (8, .iload_n 3, 0, 0, .null, []) :: (9, .iconst (-1), 0, 0, .int (-1), []) :: (10, .if_icmp .eq 11, 21, 0, .null, []) :: (13, .aload_n 0, 0, 0, .null, []) :: (14, .iload_n 3, 0, 0, .null, []) :: (15, .invokevirtual 55, 107, 1, .ref 5, []) :: (18, .ifCond .eq 29, 47, 0, .null, []) :: B5_record_21
set_option maxRecDepth 20000 in
theorem vB5_record_74 : am_vl 5 false (some .int) cX5_record B5_record_74 = true := am_vt (tl := []) 17 0 (by decide +kernel) rfl rfl rfl
set_option maxRecDepth 20000 in
theorem vB5_record_73 : am_vl 5 false (some .int) cX5_record B5_record_73 = true := am_vt (tl := B5_record_74) 1 74 (by decide +kernel) rfl rfl vB5_record_74
set_option maxRecDepth 20000 in
theorem vB5_record_64 : am_vl 5 false (some .int) cX5_record B5_record_64 = true := am_vt (tl := B5_record_73) 5 73 (by decide +kernel) rfl rfl vB5_record_73
set_option maxRecDepth 20000 in
theorem vB5_record_49 : am_vl 5 false (some .int) cX5_record B5_record_49 = true := am_vt (tl := B5_record_64) 9 64 (by decide +kernel) rfl rfl vB5_record_64
set_option maxRecDepth 20000 in
theorem vB5_record_47 : am_vl 5 false (some .int) cX5_record B5_record_47 = true := am_vt (tl := B5_record_49) 2 49 (by decide +kernel) rfl rfl vB5_record_49
set_option maxRecDepth 20000 in
theorem vB5_record_36 : am_vl 5 false (some .int) cX5_record B5_record_36 = true := am_vt (tl := B5_record_47) 6 47 (by decide +kernel) rfl rfl vB5_record_47
set_option maxRecDepth 20000 in
theorem vB5_record_21 : am_vl 5 false (some .int) cX5_record B5_record_21 = true := am_vt (tl := B5_record_36) 7 36 (by decide +kernel) rfl rfl vB5_record_36
set_option maxRecDepth 20000 in
theorem vB5_record_0 : am_vl 5 false (some .int) cX5_record B5_record_0 = true := am_vt (tl := B5_record_21) 11 21 (by decide +kernel) rfl rfl vB5_record_21
def B5_choice_41 : List am_I := (41, .aload_n 0, 0, 0, .null, []) :: (42, .iconst 3, 0, 0, .int 3, []) :: (43, .iconst 1, 0, 0, .int 1, []) :: (44, .aload_n 0, 0, 0, .null, []) :: (45, .iload_n 1, 0, 0, .null, []) :: (46, .invokevirtual 59, 109, 1, .ref 5, []) :: (49, .aload_n 0, 0, 0, .null, []) :: (50, .iload_n 2, 0, 0, .null, []) :: (51, .invokevirtual 59, 109, 1, .ref 5, []) :: (54, .aload_n 0, 0, 0, .null, []) :: (55, .iload_n 3, 0, 0, .null, []) :: (56, .invokevirtual 59, 109, 1, .ref 5, []) :: (59, .invokestatic 67, 0, 0, .null, []) :: (62, .invokestatic 67, 0, 0, .null, []) :: (65, .iadd, 0, 0, .null, []) :: (66, .iload_n 1, 0, 0, .null, []) :: (67, .iload_n 2, 0, 0, .null, []) :: (68, .iload_n 3, 0, 0, .null, []) :: (69, .invokevirtual 63, 108, 5, .ref 5, []) :: (72, .ireturn, 0, 0, .null, []) :: []
def B5_choice_39 : List am_I := (39, .iconst (-1), 0, 0, .int (-1), []) :: (40, .ireturn, 0, 0, .null, []) :: B5_choice_41
def B5_choice_26 : List am_I := (26, .iload_n 3, 0, 0, .null, []) :: (27, .iconst (-1), 0, 0, .int (-1), []) :: (28, .if_icmp .eq 13, 41, 0, .null, []) :: (31, .aload_n 0, 0, 0, .null, []) :: (32, .iload_n 3, 0, 0, .null, []) :: (33, .invokevirtual 55, 107, 1, .ref 5, []) :: (36, .ifCond .ne 5, 41, 0, .null, []) :: B5_choice_39
def B5_choice_13 : List am_I := (13, .iload_n 2, 0, 0, .null, []) :: (14, .iconst (-1), 0, 0, .int (-1), []) :: (15, .if_icmp .eq 11, 26, 0, .null, []) :: (18, .aload_n 0, 0, 0, .null, []) :: (19, .iload_n 2, 0, 0, .null, []) :: (20, .invokevirtual 55, 107, 1, .ref 5, []) :: (23, .ifCond .eq 16, 39, 0, .null, []) :: B5_choice_26
def B5_choice_0 : List am_I := (0, .iload_n 1, 0, 0, .null, []) :: (1, .iconst (-1), 0, 0, .int (-1), []) :: (2, .if_icmp .eq 11, 13, 0, .null, []) :: (5, .aload_n 0, 0, 0, .null, []) :: (6, .iload_n 1, 0, 0, .null, []) :: (7, .invokevirtual 55, 107, 1, .ref 5, []) :: (10, .ifCond .eq 29, 39, 0, .null, []) :: B5_choice_13
set_option maxRecDepth 20000 in
theorem vB5_choice_41 : am_vl 5 false (some .int) cX5_choice B5_choice_41 = true := am_vt (tl := []) 20 0 (by decide +kernel) rfl rfl rfl
set_option maxRecDepth 20000 in
theorem vB5_choice_39 : am_vl 5 false (some .int) cX5_choice B5_choice_39 = true := am_vt (tl := B5_choice_41) 2 41 (by decide +kernel) rfl rfl vB5_choice_41
set_option maxRecDepth 20000 in
theorem vB5_choice_26 : am_vl 5 false (some .int) cX5_choice B5_choice_26 = true := am_vt (tl := B5_choice_39) 7 39 (by decide +kernel) rfl rfl vB5_choice_39
set_option maxRecDepth 20000 in
theorem vB5_choice_13 : am_vl 5 false (some .int) cX5_choice B5_choice_13 = true := am_vt (tl := B5_choice_26) 7 26 (by decide +kernel) rfl rfl vB5_choice_26
set_option maxRecDepth 20000 in
theorem vB5_choice_0 : am_vl 5 false (some .int) cX5_choice B5_choice_0 = true := am_vt (tl := B5_choice_13) 7 13 (by decide +kernel) rfl rfl vB5_choice_13
def B5_box_26 : List am_I := (26, .ireturn, 0, 0, .null, []) :: []
def B5_box_25 : List am_I := (25, .iconst (-1), 0, 0, .int (-1), []) :: B5_box_26
def B5_box_13 : List am_I := (13, .aload_n 0, 0, 0, .null, []) :: (14, .iconst 4, 0, 0, .int 4, []) :: (15, .iconst 1, 0, 0, .int 1, []) :: (16, .iload_n 1, 0, 0, .null, []) :: (17, .iconst (-1), 0, 0, .int (-1), []) :: (18, .iconst (-1), 0, 0, .int (-1), []) :: (19, .invokevirtual 63, 108, 5, .ref 5, []) :: (22, .goto 4, 26, 0, .null, []) :: B5_box_25
def B5_box_0 : List am_I := (0, .iload_n 1, 0, 0, .null, []) :: (1, .iconst (-1), 0, 0, .int (-1), []) :: (2, .if_icmp .eq 11, 13, 0, .null, []) :: (5, .aload_n 0, 0, 0, .null, []) :: (6, .iload_n 1, 0, 0, .null, []) :: (7, .invokevirtual 55, 107, 1, .ref 5, []) :: (10, .ifCond .eq 15, 25, 0, .null, []) :: B5_box_13
set_option maxRecDepth 20000 in
theorem vB5_box_26 : am_vl 5 false (some .int) cX5_box B5_box_26 = true := am_vt (tl := []) 1 0 (by decide +kernel) rfl rfl rfl
set_option maxRecDepth 20000 in
theorem vB5_box_25 : am_vl 5 false (some .int) cX5_box B5_box_25 = true := am_vt (tl := B5_box_26) 1 26 (by decide +kernel) rfl rfl vB5_box_26
set_option maxRecDepth 20000 in
theorem vB5_box_13 : am_vl 5 false (some .int) cX5_box B5_box_13 = true := am_vt (tl := B5_box_25) 8 25 (by decide +kernel) rfl rfl vB5_box_25
set_option maxRecDepth 20000 in
theorem vB5_box_0 : am_vl 5 false (some .int) cX5_box B5_box_0 = true := am_vt (tl := B5_box_13) 7 13 (by decide +kernel) rfl rfl vB5_box_13
def B5_tie_40 : List am_I := (40, .aload_n 0, 0, 0, .null, []) :: (41, .getfield 16, 5, 2, .null, []) :: (44, .iconst 3, 0, 0, .int 3, []) :: (45, .iload_n 1, 0, 0, .null, []) :: (46, .imul, 0, 0, .null, []) :: (47, .iload_n 2, 0, 0, .null, []) :: (48, .iastore, 0, 0, .null, []) :: (49, .iconst 1, 0, 0, .int 1, []) :: (50, .ireturn, 0, 0, .null, []) :: []
def B5_tie_38 : List am_I := (38, .iconst (-1), 0, 0, .int (-1), []) :: (39, .ireturn, 0, 0, .null, []) :: B5_tie_40
def B5_tie_0 : List am_I := (0, .aload_n 0, 0, 0, .null, []) :: (1, .iload_n 1, 0, 0, .null, []) :: (2, .invokevirtual 55, 107, 1, .ref 5, []) :: (5, .ifCond .eq 33, 38, 0, .null, []) :: (8, .aload_n 0, 0, 0, .null, []) :: (9, .getfield 7, 5, 0, .null, []) :: (12, .iload_n 1, 0, 0, .null, []) :: (13, .iaload, 0, 0, .null, []) :: (14, .iconst 4, 0, 0, .int 4, []) :: (15, .if_icmp .ne 23, 38, 0, .null, []) :: (18, .aload_n 0, 0, 0, .null, []) :: (19, .getfield 16, 5, 2, .null, []) :: (22, .iconst 3, 0, 0, .int 3, []) :: (23, .iload_n 1, 0, 0, .null, []) :: (24, .imul, 0, 0, .null, []) :: (25, .iaload, 0, 0, .null, []) :: (26, .iconst (-1), 0, 0, .int (-1), []) :: (27, .if_icmp .ne 11, 38, 0, .null, []) :: (30, .aload_n 0, 0, 0, .null, []) :: (31, .iload_n 2, 0, 0, .null, []) :: (32, .invokevirtual 55, 107, 1, .ref 5, []) :: (35, .ifCond .ne 5, 40, 0, .null, []) :: B5_tie_38
set_option maxRecDepth 20000 in
theorem vB5_tie_40 : am_vl 5 false (some .int) cX5_tie B5_tie_40 = true := am_vt (tl := []) 9 0 (by decide +kernel) rfl rfl rfl
set_option maxRecDepth 20000 in
theorem vB5_tie_38 : am_vl 5 false (some .int) cX5_tie B5_tie_38 = true := am_vt (tl := B5_tie_40) 2 40 (by decide +kernel) rfl rfl vB5_tie_40
set_option maxRecDepth 20000 in
theorem vB5_tie_0 : am_vl 5 false (some .int) cX5_tie B5_tie_0 = true := am_vt (tl := B5_tie_38) 22 38 (by decide +kernel) rfl rfl vB5_tie_38
def B5_row_21 : List am_I := (21, .ireturn, 0, 0, .null, []) :: []
def B5_row_20 : List am_I := (20, .iconst (-1), 0, 0, .int (-1), []) :: B5_row_21
def B5_row_0 : List am_I := (0, .aload_n 0, 0, 0, .null, []) :: (1, .iload_n 1, 0, 0, .null, []) :: (2, .invokevirtual 55, 107, 1, .ref 5, []) :: (5, .ifCond .eq 15, 20, 0, .null, []) :: (8, .aload_n 0, 0, 0, .null, []) :: (9, .iconst 5, 0, 0, .int 5, []) :: (10, .iconst 1, 0, 0, .int 1, []) :: (11, .iload_n 1, 0, 0, .null, []) :: (12, .iconst (-1), 0, 0, .int (-1), []) :: (13, .iconst (-1), 0, 0, .int (-1), []) :: (14, .invokevirtual 63, 108, 5, .ref 5, []) :: (17, .goto 4, 21, 0, .null, []) :: B5_row_20
set_option maxRecDepth 20000 in
theorem vB5_row_21 : am_vl 5 false (some .int) cX5_row B5_row_21 = true := am_vt (tl := []) 1 0 (by decide +kernel) rfl rfl rfl
set_option maxRecDepth 20000 in
theorem vB5_row_20 : am_vl 5 false (some .int) cX5_row B5_row_20 = true := am_vt (tl := B5_row_21) 1 21 (by decide +kernel) rfl rfl vB5_row_21
set_option maxRecDepth 20000 in
theorem vB5_row_0 : am_vl 5 false (some .int) cX5_row B5_row_0 = true := am_vt (tl := B5_row_20) 12 20 (by decide +kernel) rfl rfl vB5_row_20
def B5_about_62 : List am_I := (62, .ireturn, 0, 0, .null, []) :: []
def B5_about_61 : List am_I := (61, .iconst (-1), 0, 0, .int (-1), []) :: B5_about_62
def B5_about_37 : List am_I := (37, .iload_n 2, 0, 0, .null, []) :: (38, .iconst 2, 0, 0, .int 2, []) :: (39, .iconst 4, 0, 0, .int 4, []) :: (40, .invokestatic 51, 106, 3, .int 0, []) :: (43, .ifCond .eq 18, 61, 0, .null, []) :: (46, .aload_n 0, 0, 0, .null, []) :: (47, .getfield 16, 5, 2, .null, []) :: (50, .iconst 3, 0, 0, .int 3, []) :: (51, .iload_n 1, 0, 0, .null, []) :: (52, .imul, 0, 0, .null, []) :: (53, .iload_n 2, 0, 0, .null, []) :: (54, .iadd, 0, 0, .null, []) :: (55, .iconst 2, 0, 0, .int 2, []) :: (56, .isub, 0, 0, .null, []) :: (57, .iaload, 0, 0, .null, []) :: (58, .goto 4, 62, 0, .null, []) :: B5_about_61
def B5_about_23 : List am_I := (23, .iload_n 2, 0, 0, .null, []) :: (24, .iconst 1, 0, 0, .int 1, []) :: (25, .if_icmp .ne 12, 37, 0, .null, []) :: (28, .aload_n 0, 0, 0, .null, []) :: (29, .getfield 13, 5, 1, .null, []) :: (32, .iload_n 1, 0, 0, .null, []) :: (33, .iaload, 0, 0, .null, []) :: (34, .goto 28, 62, 0, .null, []) :: B5_about_37
def B5_about_10 : List am_I := (10, .iload_n 2, 0, 0, .null, []) :: (11, .ifCond .ne 12, 23, 0, .null, []) :: (14, .aload_n 0, 0, 0, .null, []) :: (15, .getfield 7, 5, 0, .null, []) :: (18, .iload_n 1, 0, 0, .null, []) :: (19, .iaload, 0, 0, .null, []) :: (20, .goto 42, 62, 0, .null, []) :: B5_about_23
def B5_about_0 : List am_I := (0, .aload_n 0, 0, 0, .null, []) :: (1, .iload_n 1, 0, 0, .null, []) :: (2, .invokevirtual 55, 107, 1, .ref 5, []) :: (5, .ifCond .ne 5, 10, 0, .null, []) :: (8, .iconst (-1), 0, 0, .int (-1), []) :: (9, .ireturn, 0, 0, .null, []) :: B5_about_10
set_option maxRecDepth 20000 in
theorem vB5_about_62 : am_vl 5 false (some .int) cX5_about B5_about_62 = true := am_vt (tl := []) 1 0 (by decide +kernel) rfl rfl rfl
set_option maxRecDepth 20000 in
theorem vB5_about_61 : am_vl 5 false (some .int) cX5_about B5_about_61 = true := am_vt (tl := B5_about_62) 1 62 (by decide +kernel) rfl rfl vB5_about_62
set_option maxRecDepth 20000 in
theorem vB5_about_37 : am_vl 5 false (some .int) cX5_about B5_about_37 = true := am_vt (tl := B5_about_61) 16 61 (by decide +kernel) rfl rfl vB5_about_61
set_option maxRecDepth 20000 in
theorem vB5_about_23 : am_vl 5 false (some .int) cX5_about B5_about_23 = true := am_vt (tl := B5_about_37) 8 37 (by decide +kernel) rfl rfl vB5_about_37
set_option maxRecDepth 20000 in
theorem vB5_about_10 : am_vl 5 false (some .int) cX5_about B5_about_10 = true := am_vt (tl := B5_about_23) 7 23 (by decide +kernel) rfl rfl vB5_about_23
set_option maxRecDepth 20000 in
theorem vB5_about_0 : am_vl 5 false (some .int) cX5_about B5_about_0 = true := am_vt (tl := B5_about_10) 6 10 (by decide +kernel) rfl rfl vB5_about_10
def B5_node_106 : List am_I := (106, .iload 4, 0, 0, .null, []) :: (108, .ireturn, 0, 0, .null, []) :: []
def B5_node_79 : List am_I := (79, .iload 5, 0, 0, .null, []) :: (81, .bipush 8, 0, 0, .int 8, []) :: (83, .if_icmp .ge 23, 106, 0, .null, []) :: (86, .aload_n 0, 0, 0, .null, []) :: (87, .getfield 26, 5, 5, .null, []) :: (90, .bipush 8, 0, 0, .int 8, []) :: (92, .iload 4, 0, 0, .null, []) :: (94, .imul, 0, 0, .null, []) :: (95, .iload 5, 0, 0, .null, []) :: (97, .iadd, 0, 0, .null, []) :: (98, .iconst 0, 0, 0, .int 0, []) :: (99, .iastore, 0, 0, .null, []) :: (100, .iinc 5 1, 0, 0, .int 1, []) :: (103, .goto (-24), 79, 0, .null, []) :: B5_node_106
def B5_node_60 : List am_I := (60, .aload_n 0, 0, 0, .null, []) :: (61, .getfield 23, 5, 4, .null, []) :: (64, .iload 4, 0, 0, .null, []) :: (66, .iload_n 1, 0, 0, .null, []) :: (67, .iastore, 0, 0, .null, []) :: (68, .aload_n 0, 0, 0, .null, []) :: (69, .getfield 29, 5, 6, .null, []) :: (72, .iload 4, 0, 0, .null, []) :: (74, .lload_n 2, 0, 0, .null, []) :: (75, .lastore, 0, 0, .null, []) :: (76, .iconst 0, 0, 0, .int 0, []) :: (77, .istore 5, 0, 0, .null, []) :: B5_node_79
def B5_node_44 : List am_I := (44, .aload_n 0, 0, 0, .null, []) :: (45, .getfield 33, 5, 7, .null, []) :: (48, .istore 4, 0, 0, .null, []) :: (50, .aload_n 0, 0, 0, .null, []) :: (51, .dup, 0, 0, .null, []) :: (52, .getfield 33, 5, 7, .null, []) :: (55, .iconst 1, 0, 0, .int 1, []) :: (56, .iadd, 0, 0, .null, []) :: (57, .putfield 33, 5, 7, .null, []) :: B5_node_60
def B5_node_28 : List am_I := (28, .aload_n 0, 0, 0, .null, []) :: (29, .getfield 33, 5, 7, .null, []) :: (32, .aload_n 0, 0, 0, .null, []) :: (33, .getfield 23, 5, 4, .null, []) :: (36, .arraylength, 0, 0, .null, []) :: (37, .if_icmp .ne 7, 44, 0, .null, []) :: (40, .aload_n 0, 0, 0, .null, []) :: (41, .invokevirtual 76, 117, 0, .ref 5, []) :: B5_node_44
def B5_node_0 : List am_I := (0, .aload_n 0, 0, 0, .null, []) :: (1, .getfield 73, 5, 8, .null, []) :: (4, .istore 4, 0, 0, .null, []) :: (6, .iload 4, 0, 0, .null, []) :: (8, .ifCond .eq 20, 28, 0, .null, []) :: (11, .aload_n 0, 0, 0, .null, []) :: (12, .aload_n 0, 0, 0, .null, []) :: (13, .getfield 26, 5, 5, .null, []) :: (16, .bipush 8, 0, 0, .int 8, []) :: (18, .iload 4, 0, 0, .null, []) :: (20, .imul, 0, 0, .null, []) :: (21, .iaload, 0, 0, .null, []) :: (22, .putfield 73, 5, 8, .null, []) :: (25, .goto 35, 60, 0, .null, []) :: B5_node_28
set_option maxRecDepth 20000 in
theorem vB5_node_106 : am_vl 5 false (some .int) cX5_node B5_node_106 = true := am_vt (tl := []) 2 0 (by decide +kernel) rfl rfl rfl
set_option maxRecDepth 20000 in
theorem vB5_node_79 : am_vl 5 false (some .int) cX5_node B5_node_79 = true := am_vt (tl := B5_node_106) 14 106 (by decide +kernel) rfl rfl vB5_node_106
set_option maxRecDepth 20000 in
theorem vB5_node_60 : am_vl 5 false (some .int) cX5_node B5_node_60 = true := am_vt (tl := B5_node_79) 12 79 (by decide +kernel) rfl rfl vB5_node_79
set_option maxRecDepth 20000 in
theorem vB5_node_44 : am_vl 5 false (some .int) cX5_node B5_node_44 = true := am_vt (tl := B5_node_60) 9 60 (by decide +kernel) rfl rfl vB5_node_60
set_option maxRecDepth 20000 in
theorem vB5_node_28 : am_vl 5 false (some .int) cX5_node B5_node_28 = true := am_vt (tl := B5_node_44) 8 44 (by decide +kernel) rfl rfl vB5_node_44
set_option maxRecDepth 20000 in
theorem vB5_node_0 : am_vl 5 false (some .int) cX5_node B5_node_0 = true := am_vt (tl := B5_node_28) 14 28 (by decide +kernel) rfl rfl vB5_node_28
def B5_grow_96 : List am_I := (96, .aload_n 0, 0, 0, .null, []) :: (97, .aload_n 2, 0, 0, .null, []) :: (98, .putfield 23, 5, 4, .null, []) :: (101, .aload_n 0, 0, 0, .null, []) :: (102, .aload 4, 0, 0, .null, []) :: (104, .putfield 29, 5, 6, .null, []) :: (107, .aload_n 0, 0, 0, .null, []) :: (108, .aload_n 3, 0, 0, .null, []) :: (109, .putfield 26, 5, 5, .null, []) :: (112, .return_, 0, 0, .null, []) :: []
def B5_grow_67 : List am_I := (67, .iload 5, 0, 0, .null, []) :: (69, .bipush 8, 0, 0, .int 8, []) :: (71, .aload_n 0, 0, 0, .null, []) :: (72, .getfield 33, 5, 7, .null, []) :: (75, .imul, 0, 0, .null, []) :: (76, .if_icmp .ge 20, 96, 0, .null, []) :: (79, .aload_n 3, 0, 0, .null, []) :: (80, .iload 5, 0, 0, .null, []) :: (82, .aload_n 0, 0, 0, .null, []) :: (83, .getfield 26, 5, 5, .null, []) :: (86, .iload 5, 0, 0, .null, []) :: (88, .iaload, 0, 0, .null, []) :: (89, .iastore, 0, 0, .null, []) :: (90, .iinc 5 1, 0, 0, .int 1, []) :: (93, .goto (-26), 67, 0, .null, []) :: B5_grow_96
def B5_grow_64 : List am_I := (64, .iconst 0, 0, 0, .int 0, []) :: (65, .istore 5, 0, 0, .null, []) :: B5_grow_67
def B5_grow_26 : List am_I := (26, .iload 5, 0, 0, .null, []) :: (28, .aload_n 0, 0, 0, .null, []) :: (29, .getfield 33, 5, 7, .null, []) :: (32, .if_icmp .ge 32, 64, 0, .null, []) :: (35, .aload_n 2, 0, 0, .null, []) :: (36, .iload 5, 0, 0, .null, []) :: (38, .aload_n 0, 0, 0, .null, []) :: (39, .getfield 23, 5, 4, .null, []) :: (42, .iload 5, 0, 0, .null, []) :: (44, .iaload, 0, 0, .null, []) :: (45, .iastore, 0, 0, .null, []) :: (46, .aload 4, 0, 0, .null, []) :: (48, .iload 5, 0, 0, .null, []) :: (50, .aload_n 0, 0, 0, .null, []) :: (51, .getfield 29, 5, 6, .null, []) :: (54, .iload 5, 0, 0, .null, []) :: (56, .laload, 0, 0, .null, []) :: (57, .lastore, 0, 0, .null, []) :: (58, .iinc 5 1, 0, 0, .int 1, []) :: (61, .goto (-35), 26, 0, .null, []) :: B5_grow_64
def B5_grow_0 : List am_I := (0, .iconst 2, 0, 0, .int 2, []) :: (1, .aload_n 0, 0, 0, .null, []) :: (2, .getfield 33, 5, 7, .null, []) :: (5, .imul, 0, 0, .null, []) :: (6, .istore_n 1, 0, 0, .null, []) :: (7, .iload_n 1, 0, 0, .null, []) :: (8, .newarray .int, 0, 0, .null, []) :: (10, .astore_n 2, 0, 0, .null, []) :: (11, .bipush 8, 0, 0, .int 8, []) :: (13, .iload_n 1, 0, 0, .null, []) :: (14, .imul, 0, 0, .null, []) :: (15, .newarray .int, 0, 0, .null, []) :: (17, .astore_n 3, 0, 0, .null, []) :: (18, .iload_n 1, 0, 0, .null, []) :: (19, .newarray .long, 0, 0, .null, []) :: (21, .astore 4, 0, 0, .null, []) :: (23, .iconst 0, 0, 0, .int 0, []) :: (24, .istore 5, 0, 0, .null, []) :: B5_grow_26
set_option maxRecDepth 20000 in
theorem vB5_grow_96 : am_vl 5 false none cX5_grow B5_grow_96 = true := am_vt (tl := []) 10 0 (by decide +kernel) rfl rfl rfl
set_option maxRecDepth 20000 in
theorem vB5_grow_67 : am_vl 5 false none cX5_grow B5_grow_67 = true := am_vt (tl := B5_grow_96) 15 96 (by decide +kernel) rfl rfl vB5_grow_96
set_option maxRecDepth 20000 in
theorem vB5_grow_64 : am_vl 5 false none cX5_grow B5_grow_64 = true := am_vt (tl := B5_grow_67) 2 67 (by decide +kernel) rfl rfl vB5_grow_67
set_option maxRecDepth 20000 in
theorem vB5_grow_26 : am_vl 5 false none cX5_grow B5_grow_26 = true := am_vt (tl := B5_grow_64) 20 64 (by decide +kernel) rfl rfl vB5_grow_64
set_option maxRecDepth 20000 in
theorem vB5_grow_0 : am_vl 5 false none cX5_grow B5_grow_0 = true := am_vt (tl := B5_grow_26) 18 26 (by decide +kernel) rfl rfl vB5_grow_26
def B5_free_0 : List am_I := (0, .aload_n 0, 0, 0, .null, []) :: (1, .getfield 26, 5, 5, .null, []) :: (4, .bipush 8, 0, 0, .int 8, []) :: (6, .iload_n 1, 0, 0, .null, []) :: (7, .imul, 0, 0, .null, []) :: (8, .aload_n 0, 0, 0, .null, []) :: (9, .getfield 73, 5, 8, .null, []) :: (12, .iastore, 0, 0, .null, []) :: (13, .aload_n 0, 0, 0, .null, []) :: (14, .iload_n 1, 0, 0, .null, []) :: (15, .putfield 73, 5, 8, .null, []) :: (18, .return_, 0, 0, .null, []) :: []
set_option maxRecDepth 20000 in
theorem vB5_free_0 : am_vl 5 false none cX5_free B5_free_0 = true := am_vt (tl := []) 12 0 (by decide +kernel) rfl rfl rfl
def B5_kindOf_0 : List am_I := (0, .aload_n 0, 0, 0, .null, []) :: (1, .getfield 7, 5, 0, .null, []) :: (4, .aload_n 0, 0, 0, .null, []) :: (5, .getfield 23, 5, 4, .null, []) :: (8, .iload_n 1, 0, 0, .null, []) :: (9, .iaload, 0, 0, .null, []) :: (10, .iaload, 0, 0, .null, []) :: (11, .ireturn, 0, 0, .null, []) :: []
set_option maxRecDepth 20000 in
theorem vB5_kindOf_0 : am_vl 5 false (some .int) cX5_kindOf B5_kindOf_0 = true := am_vt (tl := []) 8 0 (by decide +kernel) rfl rfl rfl
def B5_dropped_141 : List am_I := (141, .isub, 0, 0, .null, []) :: (142, .putfield 94, 5, 17, .null, []) :: (145, .aload_n 0, 0, 0, .null, []) :: (146, .iload_n 1, 0, 0, .null, []) :: (147, .invokevirtual 97, 118, 1, .ref 5, []) :: (150, .return_, 0, 0, .null, []) :: []
def B5_dropped_140 : List am_I := (140, .iconst 0, 0, 0, .int 0, []) :: B5_dropped_141
def B5_dropped_122 : List am_I := (122, .isub, 0, 0, .null, []) :: (123, .putfield 91, 5, 16, .null, []) :: (126, .aload_n 0, 0, 0, .null, []) :: (127, .dup, 0, 0, .null, []) :: (128, .getfield 94, 5, 17, .null, []) :: (131, .iload_n 2, 0, 0, .null, []) :: (132, .iconst 5, 0, 0, .int 5, []) :: (133, .if_icmp .ne 7, 140, 0, .null, []) :: (136, .iconst 1, 0, 0, .int 1, []) :: (137, .goto 4, 141, 0, .null, []) :: B5_dropped_140
def B5_dropped_121 : List am_I := (121, .iconst 0, 0, 0, .int 0, []) :: B5_dropped_122
def B5_dropped_107 : List am_I := (107, .aload_n 0, 0, 0, .null, []) :: (108, .dup, 0, 0, .null, []) :: (109, .getfield 91, 5, 16, .null, []) :: (112, .iload_n 2, 0, 0, .null, []) :: (113, .iconst 4, 0, 0, .int 4, []) :: (114, .if_icmp .ne 7, 121, 0, .null, []) :: (117, .iconst 1, 0, 0, .int 1, []) :: (118, .goto 4, 122, 0, .null, []) :: B5_dropped_121
def B5_dropped_101 : List am_I := (101, .iinc 3 1, 0, 0, .int 1, []) :: (104, .goto (-38), 66, 0, .null, []) :: B5_dropped_107
def B5_dropped_66 : List am_I := (66, .iload_n 3, 0, 0, .null, []) :: (67, .bipush 8, 0, 0, .int 8, []) :: (69, .if_icmp .ge 38, 107, 0, .null, []) :: (72, .aload_n 0, 0, 0, .null, []) :: (73, .getfield 26, 5, 5, .null, []) :: (76, .bipush 8, 0, 0, .int 8, []) :: (78, .iload_n 1, 0, 0, .null, []) :: (79, .imul, 0, 0, .null, []) :: (80, .iload_n 3, 0, 0, .null, []) :: (81, .iadd, 0, 0, .null, []) :: (82, .iaload, 0, 0, .null, []) :: (83, .ifCond .eq 18, 101, 0, .null, []) :: (86, .aload_n 0, 0, 0, .null, []) :: (87, .aload_n 0, 0, 0, .null, []) :: (88, .getfield 26, 5, 5, .null, []) :: (91, .bipush 8, 0, 0, .int 8, []) :: (93, .iload_n 1, 0, 0, .null, []) :: (94, .imul, 0, 0, .null, []) :: (95, .iload_n 3, 0, 0, .null, []) :: (96, .iadd, 0, 0, .null, []) :: (97, .iaload, 0, 0, .null, []) :: (98, .invokevirtual 88, 120, 1, .ref 5, []) :: B5_dropped_101
def B5_dropped_64 : List am_I := (64, .iconst 0, 0, 0, .int 0, []) :: (65, .istore_n 3, 0, 0, .null, []) :: B5_dropped_66
def B5_dropped_54 : List am_I := (54, .aload_n 0, 0, 0, .null, []) :: (55, .dup, 0, 0, .null, []) :: (56, .getfield 85, 5, 19, .null, []) :: (59, .iconst 1, 0, 0, .int 1, []) :: (60, .iadd, 0, 0, .null, []) :: (61, .putfield 85, 5, 19, .null, []) :: B5_dropped_64
def B5_dropped_43 : List am_I := (43, .lastore, 0, 0, .null, []) :: (44, .aload_n 0, 0, 0, .null, []) :: (45, .dup, 0, 0, .null, []) :: (46, .getfield 82, 5, 15, .null, []) :: (49, .iconst 1, 0, 0, .int 1, []) :: (50, .iadd, 0, 0, .null, []) :: (51, .putfield 82, 5, 15, .null, []) :: B5_dropped_54
def B5_dropped_0 : List am_I := (0, .aload_n 0, 0, 0, .null, []) :: (1, .iload_n 1, 0, 0, .null, []) :: (2, .invokevirtual 79, 119, 1, .ref 5, []) :: (5, .istore_n 2, 0, 0, .null, []) :: (6, .iload_n 2, 0, 0, .null, []) :: (7, .iconst 2, 0, 0, .int 2, []) :: (8, .if_icmp .ne 56, 64, 0, .null, []) :: (11, .aload_n 0, 0, 0, .null, []) :: (12, .getfield 82, 5, 15, .null, []) :: (15, .sipush 400, 0, 0, .int 400, []) :: (18, .if_icmp .ge 36, 54, 0, .null, []) :: (21, .aload_n 0, 0, 0, .null, []) :: (22, .getfield 48, 5, 14, .null, []) :: (25, .aload_n 0, 0, 0, .null, []) :: (26, .getfield 82, 5, 15, .null, []) :: (29, .aload_n 0, 0, 0, .null, []) :: (30, .getfield 29, 5, 6, .null, []) :: (33, .aload_n 0, 0, 0, .null, []) :: (34, .getfield 26, 5, 5, .null, []) :: (37, .bipush 8, 0, 0, .int 8, []) :: (39, .iload_n 1, 0, 0, .null, []) :: (40, .imul, 0, 0, .null, []) :: (41, .iaload, 0, 0, .null, []) :: (42, .laload, 0, 0, .null, []) :: B5_dropped_43
set_option maxRecDepth 20000 in
theorem vB5_dropped_141 : am_vl 5 false none cX5_dropped B5_dropped_141 = true := am_vt (tl := []) 6 0 (by decide +kernel) rfl rfl rfl
set_option maxRecDepth 20000 in
theorem vB5_dropped_140 : am_vl 5 false none cX5_dropped B5_dropped_140 = true := am_vt (tl := B5_dropped_141) 1 141 (by decide +kernel) rfl rfl vB5_dropped_141
set_option maxRecDepth 20000 in
theorem vB5_dropped_122 : am_vl 5 false none cX5_dropped B5_dropped_122 = true := am_vt (tl := B5_dropped_140) 10 140 (by decide +kernel) rfl rfl vB5_dropped_140
set_option maxRecDepth 20000 in
theorem vB5_dropped_121 : am_vl 5 false none cX5_dropped B5_dropped_121 = true := am_vt (tl := B5_dropped_122) 1 122 (by decide +kernel) rfl rfl vB5_dropped_122
set_option maxRecDepth 20000 in
theorem vB5_dropped_107 : am_vl 5 false none cX5_dropped B5_dropped_107 = true := am_vt (tl := B5_dropped_121) 8 121 (by decide +kernel) rfl rfl vB5_dropped_121
set_option maxRecDepth 20000 in
theorem vB5_dropped_101 : am_vl 5 false none cX5_dropped B5_dropped_101 = true := am_vt (tl := B5_dropped_107) 2 107 (by decide +kernel) rfl rfl vB5_dropped_107
set_option maxRecDepth 20000 in
theorem vB5_dropped_66 : am_vl 5 false none cX5_dropped B5_dropped_66 = true := am_vt (tl := B5_dropped_101) 22 101 (by decide +kernel) rfl rfl vB5_dropped_101
set_option maxRecDepth 20000 in
theorem vB5_dropped_64 : am_vl 5 false none cX5_dropped B5_dropped_64 = true := am_vt (tl := B5_dropped_66) 2 66 (by decide +kernel) rfl rfl vB5_dropped_66
set_option maxRecDepth 20000 in
theorem vB5_dropped_54 : am_vl 5 false none cX5_dropped B5_dropped_54 = true := am_vt (tl := B5_dropped_64) 6 64 (by decide +kernel) rfl rfl vB5_dropped_64
set_option maxRecDepth 20000 in
theorem vB5_dropped_43 : am_vl 5 false none cX5_dropped B5_dropped_43 = true := am_vt (tl := B5_dropped_54) 7 54 (by decide +kernel) rfl rfl vB5_dropped_54
set_option maxRecDepth 20000 in
theorem vB5_dropped_0 : am_vl 5 false none cX5_dropped B5_dropped_0 = true := am_vt (tl := B5_dropped_43) 24 43 (by decide +kernel) rfl rfl vB5_dropped_43
def B5_mine_0 : List am_I := (0, .aload_n 0, 0, 0, .null, []) :: (1, .getfield 100, 5, 12, .null, []) :: (4, .aload_n 0, 0, 0, .null, []) :: (5, .getfield 42, 5, 11, .null, []) :: (8, .aload_n 0, 0, 0, .null, []) :: (9, .getfield 45, 5, 13, .null, []) :: (12, .iaload, 0, 0, .null, []) :: (13, .isub, 0, 0, .null, []) :: (14, .ireturn, 0, 0, .null, []) :: []
set_option maxRecDepth 20000 in
theorem vB5_mine_0 : am_vl 5 false (some .int) cX5_mine B5_mine_0 = true := am_vt (tl := []) 9 0 (by decide +kernel) rfl rfl rfl
def B5_top_0 : List am_I := (0, .aload_n 0, 0, 0, .null, []) :: (1, .getfield 36, 5, 9, .null, []) :: (4, .aload_n 0, 0, 0, .null, []) :: (5, .getfield 100, 5, 12, .null, []) :: (8, .iconst 1, 0, 0, .int 1, []) :: (9, .isub, 0, 0, .null, []) :: (10, .iload_n 1, 0, 0, .null, []) :: (11, .isub, 0, 0, .null, []) :: (12, .iaload, 0, 0, .null, []) :: (13, .ireturn, 0, 0, .null, []) :: []
set_option maxRecDepth 20000 in
theorem vB5_top_0 : am_vl 5 false (some .int) cX5_top B5_top_0 = true := am_vt (tl := []) 10 0 (by decide +kernel) rfl rfl rfl
def B5_slot_0 : List am_I := (0, .bipush 8, 0, 0, .int 8, []) :: (2, .aload_n 0, 0, 0, .null, []) :: (3, .getfield 45, 5, 13, .null, []) :: (6, .iconst 1, 0, 0, .int 1, []) :: (7, .isub, 0, 0, .null, []) :: (8, .imul, 0, 0, .null, []) :: (9, .iload_n 1, 0, 0, .null, []) :: (10, .iadd, 0, 0, .null, []) :: (11, .ireturn, 0, 0, .null, []) :: []
set_option maxRecDepth 20000 in
theorem vB5_slot_0 : am_vl 5 false (some .int) cX5_slot B5_slot_0 = true := am_vt (tl := []) 9 0 (by decide +kernel) rfl rfl rfl
def B5_find_199 : List am_I := (199, .iload_n 3, 0, 0, .null, []) :: (200, .ireturn, 0, 0, .null, []) :: []
def B5_find_167 : List am_I := (167, .aload_n 0, 0, 0, .null, []) :: (168, .iconst 0, 0, 0, .int 0, []) :: (169, .putfield 107, 5, 20, .null, []) :: (172, .aload_n 0, 0, 0, .null, []) :: (173, .iload_n 3, 0, 0, .null, []) :: (174, .putfield 111, 5, 21, .null, []) :: (177, .aload_n 0, 0, 0, .null, []) :: (178, .iload 7, 0, 0, .null, []) :: (180, .putfield 114, 5, 22, .null, []) :: (183, .aload_n 0, 0, 0, .null, []) :: (184, .getfield 26, 5, 5, .null, []) :: (187, .bipush 8, 0, 0, .int 8, []) :: (189, .iload_n 3, 0, 0, .null, []) :: (190, .imul, 0, 0, .null, []) :: (191, .iload 7, 0, 0, .null, []) :: (193, .iadd, 0, 0, .null, []) :: (194, .iaload, 0, 0, .null, []) :: (195, .istore_n 3, 0, 0, .null, []) :: (196, .goto (-146), 50, 0, .null, []) :: B5_find_199
def B5_find_159 : List am_I := (159, .iload 7, 0, 0, .null, []) :: (161, .iconst (-1), 0, 0, .int (-1), []) :: (162, .if_icmp .ne 5, 167, 0, .null, []) :: (165, .iconst 0, 0, 0, .int 0, []) :: (166, .ireturn, 0, 0, .null, []) :: B5_find_167
def B5_find_139 : List am_I := (139, .iload 5, 0, 0, .null, []) :: (141, .bipush 8, 0, 0, .int 8, []) :: (143, .if_icmp .lt 16, 159, 0, .null, []) :: (146, .iload 6, 0, 0, .null, []) :: (148, .iconst 5, 0, 0, .int 5, []) :: (149, .if_icmp .ne 10, 159, 0, .null, []) :: (152, .iload 5, 0, 0, .null, []) :: (154, .bipush 8, 0, 0, .int 8, []) :: (156, .isub, 0, 0, .null, []) :: (157, .istore 7, 0, 0, .null, []) :: B5_find_159
def B5_find_136 : List am_I := (136, .iconst 0, 0, 0, .int 0, []) :: (137, .istore 7, 0, 0, .null, []) :: B5_find_139
def B5_find_123 : List am_I := (123, .iload 5, 0, 0, .null, []) :: (125, .bipush 6, 0, 0, .int 6, []) :: (127, .if_icmp .ne 12, 139, 0, .null, []) :: (130, .iload 6, 0, 0, .null, []) :: (132, .iconst 3, 0, 0, .int 3, []) :: (133, .if_icmp .ne 6, 139, 0, .null, []) :: B5_find_136
def B5_find_111 : List am_I := (111, .iload 5, 0, 0, .null, []) :: (113, .iconst 5, 0, 0, .int 5, []) :: (114, .if_icmp .ne 9, 123, 0, .null, []) :: (117, .iload 6, 0, 0, .null, []) :: (119, .iconst 4, 0, 0, .int 4, []) :: (120, .if_icmp .eq 16, 136, 0, .null, []) :: B5_find_123
def B5_find_105 : List am_I := (105, .iload 5, 0, 0, .null, []) :: (107, .iconst 1, 0, 0, .int 1, []) :: (108, .isub, 0, 0, .null, []) :: (109, .istore 7, 0, 0, .null, []) :: B5_find_111
def B5_find_95 : List am_I := (95, .iconst 1, 0, 0, .int 1, []) :: (96, .if_icmp .eq 9, 105, 0, .null, []) :: (99, .iload 6, 0, 0, .null, []) :: (101, .iconst 2, 0, 0, .int 2, []) :: (102, .if_icmp .ne 9, 111, 0, .null, []) :: B5_find_105
def B5_find_50 : List am_I := (50, .iload 4, 0, 0, .null, []) :: (52, .ifCond .le 147, 199, 0, .null, []) :: (55, .iload_n 3, 0, 0, .null, []) :: (56, .ifCond .eq 143, 199, 0, .null, []) :: (59, .iload 4, 0, 0, .null, []) :: (61, .bipush 16, 0, 0, .int 16, []) :: (63, .irem, 0, 0, .null, []) :: (64, .istore 5, 0, 0, .null, []) :: (66, .aload_n 0, 0, 0, .null, []) :: (67, .iload_n 3, 0, 0, .null, []) :: (68, .invokevirtual 79, 119, 1, .ref 5, []) :: (71, .istore 6, 0, 0, .null, []) :: (73, .iconst (-1), 0, 0, .int (-1), []) :: (74, .istore 7, 0, 0, .null, []) :: (76, .iload 4, 0, 0, .null, []) :: (78, .bipush 16, 0, 0, .int 16, []) :: (80, .idiv, 0, 0, .null, []) :: (81, .istore 4, 0, 0, .null, []) :: (83, .iload 5, 0, 0, .null, []) :: (85, .iconst 1, 0, 0, .int 1, []) :: (86, .iconst 3, 0, 0, .int 3, []) :: (87, .invokestatic 51, 106, 3, .int 0, []) :: (90, .ifCond .eq 21, 111, 0, .null, []) :: (93, .iload 6, 0, 0, .null, []) :: B5_find_95
def B5_find_22 : List am_I := (22, .aload_n 0, 0, 0, .null, []) :: (23, .getfield 39, 5, 10, .null, []) :: (26, .aload_n 0, 0, 0, .null, []) :: (27, .iload_n 1, 0, 0, .null, []) :: (28, .invokevirtual 104, 123, 1, .ref 5, []) :: (31, .iaload, 0, 0, .null, []) :: (32, .istore_n 3, 0, 0, .null, []) :: (33, .iload_n 2, 0, 0, .null, []) :: (34, .istore 4, 0, 0, .null, []) :: (36, .aload_n 0, 0, 0, .null, []) :: (37, .iconst 1, 0, 0, .int 1, []) :: (38, .putfield 107, 5, 20, .null, []) :: (41, .aload_n 0, 0, 0, .null, []) :: (42, .aload_n 0, 0, 0, .null, []) :: (43, .iload_n 1, 0, 0, .null, []) :: (44, .invokevirtual 104, 123, 1, .ref 5, []) :: (47, .putfield 111, 5, 21, .null, []) :: B5_find_50
def B5_find_20 : List am_I := (20, .iconst 0, 0, 0, .int 0, []) :: (21, .ireturn, 0, 0, .null, []) :: B5_find_22
def B5_find_0 : List am_I := (0, .iload_n 1, 0, 0, .null, []) :: (1, .iconst 0, 0, 0, .int 0, []) :: (2, .bipush 7, 0, 0, .int 7, []) :: (4, .invokestatic 51, 106, 3, .int 0, []) :: (7, .ifCond .eq 13, 20, 0, .null, []) :: (10, .iload_n 2, 0, 0, .null, []) :: (11, .iconst 0, 0, 0, .int 0, []) :: (12, .ldc 103, 0, 0, .int 16777215, []) :: (14, .invokestatic 51, 106, 3, .int 0, []) :: (17, .ifCond .ne 5, 22, 0, .null, []) :: B5_find_20
set_option maxRecDepth 20000 in
theorem vB5_find_199 : am_vl 5 false (some .int) cX5_find B5_find_199 = true := am_vt (tl := []) 2 0 (by decide +kernel) rfl rfl rfl
set_option maxRecDepth 20000 in
theorem vB5_find_167 : am_vl 5 false (some .int) cX5_find B5_find_167 = true := am_vt (tl := B5_find_199) 19 199 (by decide +kernel) rfl rfl vB5_find_199
set_option maxRecDepth 20000 in
theorem vB5_find_159 : am_vl 5 false (some .int) cX5_find B5_find_159 = true := am_vt (tl := B5_find_167) 5 167 (by decide +kernel) rfl rfl vB5_find_167
set_option maxRecDepth 20000 in
theorem vB5_find_139 : am_vl 5 false (some .int) cX5_find B5_find_139 = true := am_vt (tl := B5_find_159) 10 159 (by decide +kernel) rfl rfl vB5_find_159
set_option maxRecDepth 20000 in
theorem vB5_find_136 : am_vl 5 false (some .int) cX5_find B5_find_136 = true := am_vt (tl := B5_find_139) 2 139 (by decide +kernel) rfl rfl vB5_find_139
set_option maxRecDepth 20000 in
theorem vB5_find_123 : am_vl 5 false (some .int) cX5_find B5_find_123 = true := am_vt (tl := B5_find_136) 6 136 (by decide +kernel) rfl rfl vB5_find_136
set_option maxRecDepth 20000 in
theorem vB5_find_111 : am_vl 5 false (some .int) cX5_find B5_find_111 = true := am_vt (tl := B5_find_123) 6 123 (by decide +kernel) rfl rfl vB5_find_123
set_option maxRecDepth 20000 in
theorem vB5_find_105 : am_vl 5 false (some .int) cX5_find B5_find_105 = true := am_vt (tl := B5_find_111) 4 111 (by decide +kernel) rfl rfl vB5_find_111
set_option maxRecDepth 20000 in
theorem vB5_find_95 : am_vl 5 false (some .int) cX5_find B5_find_95 = true := am_vt (tl := B5_find_105) 5 105 (by decide +kernel) rfl rfl vB5_find_105
set_option maxRecDepth 20000 in
theorem vB5_find_50 : am_vl 5 false (some .int) cX5_find B5_find_50 = true := am_vt (tl := B5_find_95) 24 95 (by decide +kernel) rfl rfl vB5_find_95
set_option maxRecDepth 20000 in
theorem vB5_find_22 : am_vl 5 false (some .int) cX5_find B5_find_22 = true := am_vt (tl := B5_find_50) 17 50 (by decide +kernel) rfl rfl vB5_find_50
set_option maxRecDepth 20000 in
theorem vB5_find_20 : am_vl 5 false (some .int) cX5_find B5_find_20 = true := am_vt (tl := B5_find_22) 2 22 (by decide +kernel) rfl rfl vB5_find_22
set_option maxRecDepth 20000 in
theorem vB5_find_0 : am_vl 5 false (some .int) cX5_find B5_find_0 = true := am_vt (tl := B5_find_20) 10 20 (by decide +kernel) rfl rfl vB5_find_20
def B5_put_38 : List am_I := (38, .return_, 0, 0, .null, []) :: []
def B5_put_20 : List am_I := (20, .aload_n 0, 0, 0, .null, []) :: (21, .getfield 26, 5, 5, .null, []) :: (24, .bipush 8, 0, 0, .int 8, []) :: (26, .aload_n 0, 0, 0, .null, []) :: (27, .getfield 111, 5, 21, .null, []) :: (30, .imul, 0, 0, .null, []) :: (31, .aload_n 0, 0, 0, .null, []) :: (32, .getfield 114, 5, 22, .null, []) :: (35, .iadd, 0, 0, .null, []) :: (36, .iload_n 1, 0, 0, .null, []) :: (37, .iastore, 0, 0, .null, []) :: B5_put_38
def B5_put_0 : List am_I := (0, .aload_n 0, 0, 0, .null, []) :: (1, .getfield 107, 5, 20, .null, []) :: (4, .ifCond .eq 16, 20, 0, .null, []) :: (7, .aload_n 0, 0, 0, .null, []) :: (8, .getfield 39, 5, 10, .null, []) :: (11, .aload_n 0, 0, 0, .null, []) :: (12, .getfield 111, 5, 21, .null, []) :: (15, .iload_n 1, 0, 0, .null, []) :: (16, .iastore, 0, 0, .null, []) :: (17, .goto 21, 38, 0, .null, []) :: B5_put_20
set_option maxRecDepth 20000 in
theorem vB5_put_38 : am_vl 5 false none cX5_put B5_put_38 = true := am_vt (tl := []) 1 0 (by decide +kernel) rfl rfl rfl
set_option maxRecDepth 20000 in
theorem vB5_put_20 : am_vl 5 false none cX5_put B5_put_20 = true := am_vt (tl := B5_put_38) 11 38 (by decide +kernel) rfl rfl vB5_put_38
set_option maxRecDepth 20000 in
theorem vB5_put_0 : am_vl 5 false none cX5_put B5_put_0 = true := am_vt (tl := B5_put_20) 10 20 (by decide +kernel) rfl rfl vB5_put_20
def B5_comes_0 : List am_I := (0, .aload_n 0, 0, 0, .null, []) :: (1, .getfield 36, 5, 9, .null, []) :: (4, .aload_n 0, 0, 0, .null, []) :: (5, .getfield 100, 5, 12, .null, []) :: (8, .iload_n 1, 0, 0, .null, []) :: (9, .iastore, 0, 0, .null, []) :: (10, .aload_n 0, 0, 0, .null, []) :: (11, .dup, 0, 0, .null, []) :: (12, .getfield 100, 5, 12, .null, []) :: (15, .iconst 1, 0, 0, .int 1, []) :: (16, .iadd, 0, 0, .null, []) :: (17, .putfield 100, 5, 12, .null, []) :: (20, .iconst 1, 0, 0, .int 1, []) :: (21, .ireturn, 0, 0, .null, []) :: []
set_option maxRecDepth 20000 in
theorem vB5_comes_0 : am_vl 5 false (some .int) cX5_comes B5_comes_0 = true := am_vt (tl := []) 14 0 (by decide +kernel) rfl rfl rfl
def B5_number_24 : List am_I := (24, .ireturn, 0, 0, .null, []) :: []
def B5_number_14 : List am_I := (14, .aload_n 0, 0, 0, .null, []) :: (15, .aload_n 0, 0, 0, .null, []) :: (16, .iconst 0, 0, 0, .int 0, []) :: (17, .lload_n 1, 0, 0, .null, []) :: (18, .invokevirtual 117, 116, 2, .ref 5, []) :: (21, .invokevirtual 121, 126, 1, .ref 5, []) :: B5_number_24
def B5_number_0 : List am_I := (0, .aload_n 0, 0, 0, .null, []) :: (1, .getfield 100, 5, 12, .null, []) :: (4, .bipush 24, 0, 0, .int 24, []) :: (6, .if_icmp .ne 8, 14, 0, .null, []) :: (9, .bipush (-2), 0, 0, .int (-2), []) :: (11, .goto 13, 24, 0, .null, []) :: B5_number_14
set_option maxRecDepth 20000 in
theorem vB5_number_24 : am_vl 5 false (some .int) cX5_number B5_number_24 = true := am_vt (tl := []) 1 0 (by decide +kernel) rfl rfl rfl
set_option maxRecDepth 20000 in
theorem vB5_number_14 : am_vl 5 false (some .int) cX5_number B5_number_14 = true := am_vt (tl := B5_number_24) 6 24 (by decide +kernel) rfl rfl vB5_number_24
set_option maxRecDepth 20000 in
theorem vB5_number_0 : am_vl 5 false (some .int) cX5_number B5_number_0 = true := am_vt (tl := B5_number_14) 6 14 (by decide +kernel) rfl rfl vB5_number_14
def B5_parts_27 : List am_I := (27, .iload_n 2, 0, 0, .null, []) :: (28, .ireturn, 0, 0, .null, []) :: []
def B5_parts_2 : List am_I := (2, .iload_n 2, 0, 0, .null, []) :: (3, .iconst 3, 0, 0, .int 3, []) :: (4, .if_icmp .ge 23, 27, 0, .null, []) :: (7, .aload_n 0, 0, 0, .null, []) :: (8, .getfield 16, 5, 2, .null, []) :: (11, .iconst 3, 0, 0, .int 3, []) :: (12, .iload_n 1, 0, 0, .null, []) :: (13, .imul, 0, 0, .null, []) :: (14, .iload_n 2, 0, 0, .null, []) :: (15, .iadd, 0, 0, .null, []) :: (16, .iaload, 0, 0, .null, []) :: (17, .iconst (-1), 0, 0, .int (-1), []) :: (18, .if_icmp .eq 9, 27, 0, .null, []) :: (21, .iinc 2 1, 0, 0, .int 1, []) :: (24, .goto (-22), 2, 0, .null, []) :: B5_parts_27
def B5_parts_0 : List am_I := (0, .iconst 0, 0, 0, .int 0, []) :: (1, .istore_n 2, 0, 0, .null, []) :: B5_parts_2
set_option maxRecDepth 20000 in
theorem vB5_parts_27 : am_vl 5 false (some .int) cX5_parts B5_parts_27 = true := am_vt (tl := []) 2 0 (by decide +kernel) rfl rfl rfl
set_option maxRecDepth 20000 in
theorem vB5_parts_2 : am_vl 5 false (some .int) cX5_parts B5_parts_2 = true := am_vt (tl := B5_parts_27) 15 27 (by decide +kernel) rfl rfl vB5_parts_27
set_option maxRecDepth 20000 in
theorem vB5_parts_0 : am_vl 5 false (some .int) cX5_parts B5_parts_0 = true := am_vt (tl := B5_parts_2) 2 2 (by decide +kernel) rfl rfl vB5_parts_2
def B5_wrap_52 : List am_I := (52, .aload_n 0, 0, 0, .null, []) :: (53, .dup, 0, 0, .null, []) :: (54, .getfield 100, 5, 12, .null, []) :: (57, .iload 4, 0, 0, .null, []) :: (59, .isub, 0, 0, .null, []) :: (60, .putfield 100, 5, 12, .null, []) :: (63, .aload_n 0, 0, 0, .null, []) :: (64, .iload 5, 0, 0, .null, []) :: (66, .invokevirtual 121, 126, 1, .ref 5, []) :: (69, .ireturn, 0, 0, .null, []) :: []
def B5_wrap_11 : List am_I := (11, .iload 6, 0, 0, .null, []) :: (13, .iload 4, 0, 0, .null, []) :: (15, .if_icmp .ge 37, 52, 0, .null, []) :: (18, .aload_n 0, 0, 0, .null, []) :: (19, .getfield 26, 5, 5, .null, []) :: (22, .bipush 8, 0, 0, .int 8, []) :: (24, .iload 5, 0, 0, .null, []) :: (26, .imul, 0, 0, .null, []) :: (27, .iload 6, 0, 0, .null, []) :: (29, .iadd, 0, 0, .null, []) :: (30, .aload_n 0, 0, 0, .null, []) :: (31, .getfield 36, 5, 9, .null, []) :: (34, .aload_n 0, 0, 0, .null, []) :: (35, .getfield 100, 5, 12, .null, []) :: (38, .iload 4, 0, 0, .null, []) :: (40, .isub, 0, 0, .null, []) :: (41, .iload 6, 0, 0, .null, []) :: (43, .iadd, 0, 0, .null, []) :: (44, .iaload, 0, 0, .null, []) :: (45, .iastore, 0, 0, .null, []) :: (46, .iinc 6 1, 0, 0, .int 1, []) :: (49, .goto (-38), 11, 0, .null, []) :: B5_wrap_52
def B5_wrap_0 : List am_I := (0, .aload_n 0, 0, 0, .null, []) :: (1, .iload_n 1, 0, 0, .null, []) :: (2, .lload_n 2, 0, 0, .null, []) :: (3, .invokevirtual 117, 116, 2, .ref 5, []) :: (6, .istore 5, 0, 0, .null, []) :: (8, .iconst 0, 0, 0, .int 0, []) :: (9, .istore 6, 0, 0, .null, []) :: B5_wrap_11
set_option maxRecDepth 20000 in
theorem vB5_wrap_52 : am_vl 5 false (some .int) cX5_wrap B5_wrap_52 = true := am_vt (tl := []) 10 0 (by decide +kernel) rfl rfl rfl
set_option maxRecDepth 20000 in
theorem vB5_wrap_11 : am_vl 5 false (some .int) cX5_wrap B5_wrap_11 = true := am_vt (tl := B5_wrap_52) 22 52 (by decide +kernel) rfl rfl vB5_wrap_52
set_option maxRecDepth 20000 in
theorem vB5_wrap_0 : am_vl 5 false (some .int) cX5_wrap B5_wrap_0 = true := am_vt (tl := B5_wrap_11) 7 11 (by decide +kernel) rfl rfl vB5_wrap_11
def B5_make_306 : List am_I := (306, .iconst (-1), 0, 0, .int (-1), []) :: (307, .ireturn, 0, 0, .null, []) :: []
def B5_make_288 : List am_I := (288, .aload_n 0, 0, 0, .null, []) :: (289, .dup, 0, 0, .null, []) :: (290, .getfield 91, 5, 16, .null, []) :: (293, .iconst 1, 0, 0, .int 1, []) :: (294, .iadd, 0, 0, .null, []) :: (295, .putfield 91, 5, 16, .null, []) :: (298, .aload_n 0, 0, 0, .null, []) :: (299, .iload_n 1, 0, 0, .null, []) :: (300, .lconst 0, 0, 0, .long 0, []) :: (301, .iconst 1, 0, 0, .int 1, []) :: (302, .invokevirtual 137, 129, 3, .ref 5, []) :: (305, .ireturn, 0, 0, .null, []) :: B5_make_306
def B5_make_276 : List am_I := (276, .aload_n 0, 0, 0, .null, []) :: (277, .getfield 91, 5, 16, .null, []) :: (280, .bipush 60, 0, 0, .int 60, []) :: (282, .if_icmp .ne 6, 288, 0, .null, []) :: (285, .bipush (-2), 0, 0, .int (-2), []) :: (287, .ireturn, 0, 0, .null, []) :: B5_make_288
def B5_make_274 : List am_I := (274, .iconst (-1), 0, 0, .int (-1), []) :: (275, .ireturn, 0, 0, .null, []) :: B5_make_276
def B5_make_271 : List am_I := (271, .if_icmp .eq 5, 276, 0, .null, []) :: B5_make_274
def B5_make_233 : List am_I := (233, .aload_n 0, 0, 0, .null, []) :: (234, .getfield 16, 5, 2, .null, []) :: (237, .iconst 3, 0, 0, .int 3, []) :: (238, .iload_n 1, 0, 0, .null, []) :: (239, .imul, 0, 0, .null, []) :: (240, .iaload, 0, 0, .null, []) :: (241, .iconst (-1), 0, 0, .int (-1), []) :: (242, .if_icmp .eq 32, 274, 0, .null, []) :: (245, .aload_n 0, 0, 0, .null, []) :: (246, .invokevirtual 127, 121, 0, .ref 5, []) :: (249, .iconst 1, 0, 0, .int 1, []) :: (250, .if_icmp .lt 24, 274, 0, .null, []) :: (253, .aload_n 0, 0, 0, .null, []) :: (254, .getfield 23, 5, 4, .null, []) :: (257, .aload_n 0, 0, 0, .null, []) :: (258, .iconst 0, 0, 0, .int 0, []) :: (259, .invokevirtual 131, 122, 1, .ref 5, []) :: (262, .iaload, 0, 0, .null, []) :: (263, .aload_n 0, 0, 0, .null, []) :: (264, .getfield 16, 5, 2, .null, []) :: (267, .iconst 3, 0, 0, .int 3, []) :: (268, .iload_n 1, 0, 0, .null, []) :: (269, .imul, 0, 0, .null, []) :: (270, .iaload, 0, 0, .null, []) :: B5_make_271
def B5_make_229 : List am_I := (229, .invokevirtual 137, 129, 3, .ref 5, []) :: (232, .ireturn, 0, 0, .null, []) :: B5_make_233
def B5_make_228 : List am_I := (228, .iconst 1, 0, 0, .int 1, []) :: B5_make_229
def B5_make_214 : List am_I := (214, .aload_n 0, 0, 0, .null, []) :: (215, .iload_n 1, 0, 0, .null, []) :: (216, .iload_n 2, 0, 0, .null, []) :: (217, .i2l, 0, 0, .null, []) :: (218, .iload 4, 0, 0, .null, []) :: (220, .iconst (-1), 0, 0, .int (-1), []) :: (221, .if_icmp .ne 7, 228, 0, .null, []) :: (224, .iconst 0, 0, 0, .int 0, []) :: (225, .goto 4, 229, 0, .null, []) :: B5_make_228
def B5_make_196 : List am_I := (196, .iload 4, 0, 0, .null, []) :: (198, .iconst (-1), 0, 0, .int (-1), []) :: (199, .if_icmp .ne 15, 214, 0, .null, []) :: (202, .aload_n 0, 0, 0, .null, []) :: (203, .getfield 100, 5, 12, .null, []) :: (206, .bipush 24, 0, 0, .int 24, []) :: (208, .if_icmp .ne 6, 214, 0, .null, []) :: (211, .bipush (-2), 0, 0, .int (-2), []) :: (213, .ireturn, 0, 0, .null, []) :: B5_make_214
def B5_make_194 : List am_I := (194, .iconst (-1), 0, 0, .int (-1), []) :: (195, .ireturn, 0, 0, .null, []) :: B5_make_196
def B5_make_153 : List am_I := (153, .aload_n 0, 0, 0, .null, []) :: (154, .getfield 16, 5, 2, .null, []) :: (157, .iconst 3, 0, 0, .int 3, []) :: (158, .iload_n 1, 0, 0, .null, []) :: (159, .imul, 0, 0, .null, []) :: (160, .iload_n 2, 0, 0, .null, []) :: (161, .iadd, 0, 0, .null, []) :: (162, .iaload, 0, 0, .null, []) :: (163, .istore 4, 0, 0, .null, []) :: (165, .iload 4, 0, 0, .null, []) :: (167, .iconst (-1), 0, 0, .int (-1), []) :: (168, .if_icmp .eq 28, 196, 0, .null, []) :: (171, .aload_n 0, 0, 0, .null, []) :: (172, .invokevirtual 127, 121, 0, .ref 5, []) :: (175, .iconst 1, 0, 0, .int 1, []) :: (176, .if_icmp .lt 18, 194, 0, .null, []) :: (179, .aload_n 0, 0, 0, .null, []) :: (180, .getfield 23, 5, 4, .null, []) :: (183, .aload_n 0, 0, 0, .null, []) :: (184, .iconst 0, 0, 0, .int 0, []) :: (185, .invokevirtual 131, 122, 1, .ref 5, []) :: (188, .iaload, 0, 0, .null, []) :: (189, .iload 4, 0, 0, .null, []) :: (191, .if_icmp .eq 5, 196, 0, .null, []) :: B5_make_194
def B5_make_142 : List am_I := (142, .iload_n 2, 0, 0, .null, []) :: (143, .iconst 0, 0, 0, .int 0, []) :: (144, .iconst 2, 0, 0, .int 2, []) :: (145, .invokestatic 51, 106, 3, .int 0, []) :: (148, .ifCond .ne 5, 153, 0, .null, []) :: (151, .iconst (-1), 0, 0, .int (-1), []) :: (152, .ireturn, 0, 0, .null, []) :: B5_make_153
def B5_make_130 : List am_I := (130, .iadd, 0, 0, .null, []) :: (131, .putfield 134, 5, 18, .null, []) :: (134, .aload_n 0, 0, 0, .null, []) :: (135, .iload_n 1, 0, 0, .null, []) :: (136, .lconst 0, 0, 0, .long 0, []) :: (137, .iload_n 3, 0, 0, .null, []) :: (138, .invokevirtual 137, 129, 3, .ref 5, []) :: (141, .ireturn, 0, 0, .null, []) :: B5_make_142
def B5_make_129 : List am_I := (129, .iconst 0, 0, 0, .int 0, []) :: B5_make_130
def B5_make_110 : List am_I := (110, .aload_n 0, 0, 0, .null, []) :: (111, .dup, 0, 0, .null, []) :: (112, .getfield 134, 5, 18, .null, []) :: (115, .aload_n 0, 0, 0, .null, []) :: (116, .getfield 7, 5, 0, .null, []) :: (119, .iload_n 1, 0, 0, .null, []) :: (120, .iaload, 0, 0, .null, []) :: (121, .iconst 2, 0, 0, .int 2, []) :: (122, .if_icmp .ne 7, 129, 0, .null, []) :: (125, .iconst 1, 0, 0, .int 1, []) :: (126, .goto 4, 130, 0, .null, []) :: B5_make_129
def B5_make_104 : List am_I := (104, .iinc 4 1, 0, 0, .int 1, []) :: (107, .goto (-40), 67, 0, .null, []) :: B5_make_110
def B5_make_67 : List am_I := (67, .iload 4, 0, 0, .null, []) :: (69, .iload_n 3, 0, 0, .null, []) :: (70, .if_icmp .ge 40, 110, 0, .null, []) :: (73, .aload_n 0, 0, 0, .null, []) :: (74, .getfield 23, 5, 4, .null, []) :: (77, .aload_n 0, 0, 0, .null, []) :: (78, .iload_n 3, 0, 0, .null, []) :: (79, .iconst 1, 0, 0, .int 1, []) :: (80, .isub, 0, 0, .null, []) :: (81, .iload 4, 0, 0, .null, []) :: (83, .isub, 0, 0, .null, []) :: (84, .invokevirtual 131, 122, 1, .ref 5, []) :: (87, .iaload, 0, 0, .null, []) :: (88, .aload_n 0, 0, 0, .null, []) :: (89, .getfield 16, 5, 2, .null, []) :: (92, .iconst 3, 0, 0, .int 3, []) :: (93, .iload_n 1, 0, 0, .null, []) :: (94, .imul, 0, 0, .null, []) :: (95, .iload 4, 0, 0, .null, []) :: (97, .iadd, 0, 0, .null, []) :: (98, .iaload, 0, 0, .null, []) :: (99, .if_icmp .eq 5, 104, 0, .null, []) :: (102, .iconst (-1), 0, 0, .int (-1), []) :: (103, .ireturn, 0, 0, .null, []) :: B5_make_104
def B5_make_64 : List am_I := (64, .iconst 0, 0, 0, .int 0, []) :: (65, .istore 4, 0, 0, .null, []) :: B5_make_67
def B5_make_48 : List am_I := (48, .aload_n 0, 0, 0, .null, []) :: (49, .iload_n 1, 0, 0, .null, []) :: (50, .invokevirtual 124, 128, 1, .ref 5, []) :: (53, .istore_n 3, 0, 0, .null, []) :: (54, .aload_n 0, 0, 0, .null, []) :: (55, .invokevirtual 127, 121, 0, .ref 5, []) :: (58, .iload_n 3, 0, 0, .null, []) :: (59, .if_icmp .ge 5, 64, 0, .null, []) :: (62, .iconst (-1), 0, 0, .int (-1), []) :: (63, .ireturn, 0, 0, .null, []) :: B5_make_64
def B5_make_10 : List am_I := (10, .aload_n 0, 0, 0, .null, []) :: (11, .getfield 7, 5, 0, .null, []) :: (14, .iload_n 1, 0, 0, .null, []) :: (15, .iaload, 0, 0, .null, []) :: (16, .tableswitch 290 1 4 #[32, 32, 126, 217], 306, 0, .null, [(1, 48), (2, 48), (3, 142), (4, 233)]) :: B5_make_48
def B5_make_0 : List am_I := (0, .aload_n 0, 0, 0, .null, []) :: (1, .iload_n 1, 0, 0, .null, []) :: (2, .invokevirtual 55, 107, 1, .ref 5, []) :: (5, .ifCond .ne 5, 10, 0, .null, []) :: (8, .iconst (-1), 0, 0, .int (-1), []) :: (9, .ireturn, 0, 0, .null, []) :: B5_make_10
set_option maxRecDepth 20000 in
theorem vB5_make_306 : am_vl 5 false (some .int) cX5_make B5_make_306 = true := am_vt (tl := []) 2 0 (by decide +kernel) rfl rfl rfl
set_option maxRecDepth 20000 in
theorem vB5_make_288 : am_vl 5 false (some .int) cX5_make B5_make_288 = true := am_vt (tl := B5_make_306) 12 306 (by decide +kernel) rfl rfl vB5_make_306
set_option maxRecDepth 20000 in
theorem vB5_make_276 : am_vl 5 false (some .int) cX5_make B5_make_276 = true := am_vt (tl := B5_make_288) 6 288 (by decide +kernel) rfl rfl vB5_make_288
set_option maxRecDepth 20000 in
theorem vB5_make_274 : am_vl 5 false (some .int) cX5_make B5_make_274 = true := am_vt (tl := B5_make_276) 2 276 (by decide +kernel) rfl rfl vB5_make_276
set_option maxRecDepth 20000 in
theorem vB5_make_271 : am_vl 5 false (some .int) cX5_make B5_make_271 = true := am_vt (tl := B5_make_274) 1 274 (by decide +kernel) rfl rfl vB5_make_274
set_option maxRecDepth 20000 in
theorem vB5_make_233 : am_vl 5 false (some .int) cX5_make B5_make_233 = true := am_vt (tl := B5_make_271) 24 271 (by decide +kernel) rfl rfl vB5_make_271
set_option maxRecDepth 20000 in
theorem vB5_make_229 : am_vl 5 false (some .int) cX5_make B5_make_229 = true := am_vt (tl := B5_make_233) 2 233 (by decide +kernel) rfl rfl vB5_make_233
set_option maxRecDepth 20000 in
theorem vB5_make_228 : am_vl 5 false (some .int) cX5_make B5_make_228 = true := am_vt (tl := B5_make_229) 1 229 (by decide +kernel) rfl rfl vB5_make_229
set_option maxRecDepth 20000 in
theorem vB5_make_214 : am_vl 5 false (some .int) cX5_make B5_make_214 = true := am_vt (tl := B5_make_228) 9 228 (by decide +kernel) rfl rfl vB5_make_228
set_option maxRecDepth 20000 in
theorem vB5_make_196 : am_vl 5 false (some .int) cX5_make B5_make_196 = true := am_vt (tl := B5_make_214) 9 214 (by decide +kernel) rfl rfl vB5_make_214
set_option maxRecDepth 20000 in
theorem vB5_make_194 : am_vl 5 false (some .int) cX5_make B5_make_194 = true := am_vt (tl := B5_make_196) 2 196 (by decide +kernel) rfl rfl vB5_make_196
set_option maxRecDepth 20000 in
theorem vB5_make_153 : am_vl 5 false (some .int) cX5_make B5_make_153 = true := am_vt (tl := B5_make_194) 24 194 (by decide +kernel) rfl rfl vB5_make_194
set_option maxRecDepth 20000 in
theorem vB5_make_142 : am_vl 5 false (some .int) cX5_make B5_make_142 = true := am_vt (tl := B5_make_153) 7 153 (by decide +kernel) rfl rfl vB5_make_153
set_option maxRecDepth 20000 in
theorem vB5_make_130 : am_vl 5 false (some .int) cX5_make B5_make_130 = true := am_vt (tl := B5_make_142) 8 142 (by decide +kernel) rfl rfl vB5_make_142
set_option maxRecDepth 20000 in
theorem vB5_make_129 : am_vl 5 false (some .int) cX5_make B5_make_129 = true := am_vt (tl := B5_make_130) 1 130 (by decide +kernel) rfl rfl vB5_make_130
set_option maxRecDepth 20000 in
theorem vB5_make_110 : am_vl 5 false (some .int) cX5_make B5_make_110 = true := am_vt (tl := B5_make_129) 11 129 (by decide +kernel) rfl rfl vB5_make_129
set_option maxRecDepth 20000 in
theorem vB5_make_104 : am_vl 5 false (some .int) cX5_make B5_make_104 = true := am_vt (tl := B5_make_110) 2 110 (by decide +kernel) rfl rfl vB5_make_110
set_option maxRecDepth 20000 in
theorem vB5_make_67 : am_vl 5 false (some .int) cX5_make B5_make_67 = true := am_vt (tl := B5_make_104) 24 104 (by decide +kernel) rfl rfl vB5_make_104
set_option maxRecDepth 20000 in
theorem vB5_make_64 : am_vl 5 false (some .int) cX5_make B5_make_64 = true := am_vt (tl := B5_make_67) 2 67 (by decide +kernel) rfl rfl vB5_make_67
set_option maxRecDepth 20000 in
theorem vB5_make_48 : am_vl 5 false (some .int) cX5_make B5_make_48 = true := am_vt (tl := B5_make_64) 10 64 (by decide +kernel) rfl rfl vB5_make_64
set_option maxRecDepth 20000 in
theorem vB5_make_10 : am_vl 5 false (some .int) cX5_make B5_make_10 = true := am_vt (tl := B5_make_48) 5 48 (by decide +kernel) rfl rfl vB5_make_48
set_option maxRecDepth 20000 in
theorem vB5_make_0 : am_vl 5 false (some .int) cX5_make B5_make_0 = true := am_vt (tl := B5_make_10) 6 10 (by decide +kernel) rfl rfl vB5_make_10
def B5_gather_99 : List am_I := (99, .aload_n 0, 0, 0, .null, []) :: (100, .dup, 0, 0, .null, []) :: (101, .getfield 94, 5, 17, .null, []) :: (104, .iconst 1, 0, 0, .int 1, []) :: (105, .iadd, 0, 0, .null, []) :: (106, .putfield 94, 5, 17, .null, []) :: (109, .aload_n 0, 0, 0, .null, []) :: (110, .iload_n 1, 0, 0, .null, []) :: (111, .iload_n 2, 0, 0, .null, []) :: (112, .i2l, 0, 0, .null, []) :: (113, .iload_n 2, 0, 0, .null, []) :: (114, .invokevirtual 137, 129, 3, .ref 5, []) :: (117, .ireturn, 0, 0, .null, []) :: []
def B5_gather_96 : List am_I := (96, .bipush (-2), 0, 0, .int (-2), []) :: (98, .ireturn, 0, 0, .null, []) :: B5_gather_99
def B5_gather_74 : List am_I := (74, .aload_n 0, 0, 0, .null, []) :: (75, .getfield 94, 5, 17, .null, []) :: (78, .bipush 20, 0, 0, .int 20, []) :: (80, .if_icmp .eq 16, 96, 0, .null, []) :: (83, .iload_n 2, 0, 0, .null, []) :: (84, .ifCond .ne 15, 99, 0, .null, []) :: (87, .aload_n 0, 0, 0, .null, []) :: (88, .getfield 100, 5, 12, .null, []) :: (91, .bipush 24, 0, 0, .int 24, []) :: (93, .if_icmp .ne 6, 99, 0, .null, []) :: B5_gather_96
def B5_gather_68 : List am_I := (68, .iinc 3 1, 0, 0, .int 1, []) :: (71, .goto (-31), 40, 0, .null, []) :: B5_gather_74
def B5_gather_40 : List am_I := (40, .iload_n 3, 0, 0, .null, []) :: (41, .iload_n 2, 0, 0, .null, []) :: (42, .if_icmp .ge 32, 74, 0, .null, []) :: (45, .aload_n 0, 0, 0, .null, []) :: (46, .getfield 23, 5, 4, .null, []) :: (49, .aload_n 0, 0, 0, .null, []) :: (50, .iload_n 3, 0, 0, .null, []) :: (51, .invokevirtual 131, 122, 1, .ref 5, []) :: (54, .iaload, 0, 0, .null, []) :: (55, .aload_n 0, 0, 0, .null, []) :: (56, .getfield 16, 5, 2, .null, []) :: (59, .iconst 3, 0, 0, .int 3, []) :: (60, .iload_n 1, 0, 0, .null, []) :: (61, .imul, 0, 0, .null, []) :: (62, .iaload, 0, 0, .null, []) :: (63, .if_icmp .eq 5, 68, 0, .null, []) :: (66, .iconst (-1), 0, 0, .int (-1), []) :: (67, .ireturn, 0, 0, .null, []) :: B5_gather_68
def B5_gather_38 : List am_I := (38, .iconst 0, 0, 0, .int 0, []) :: (39, .istore_n 3, 0, 0, .null, []) :: B5_gather_40
def B5_gather_36 : List am_I := (36, .iconst (-1), 0, 0, .int (-1), []) :: (37, .ireturn, 0, 0, .null, []) :: B5_gather_38
def B5_gather_0 : List am_I := (0, .aload_n 0, 0, 0, .null, []) :: (1, .iload_n 1, 0, 0, .null, []) :: (2, .invokevirtual 55, 107, 1, .ref 5, []) :: (5, .ifCond .eq 31, 36, 0, .null, []) :: (8, .aload_n 0, 0, 0, .null, []) :: (9, .getfield 7, 5, 0, .null, []) :: (12, .iload_n 1, 0, 0, .null, []) :: (13, .iaload, 0, 0, .null, []) :: (14, .iconst 5, 0, 0, .int 5, []) :: (15, .if_icmp .ne 21, 36, 0, .null, []) :: (18, .iload_n 2, 0, 0, .null, []) :: (19, .iconst 0, 0, 0, .int 0, []) :: (20, .bipush 8, 0, 0, .int 8, []) :: (22, .invokestatic 51, 106, 3, .int 0, []) :: (25, .ifCond .eq 11, 36, 0, .null, []) :: (28, .aload_n 0, 0, 0, .null, []) :: (29, .invokevirtual 127, 121, 0, .ref 5, []) :: (32, .iload_n 2, 0, 0, .null, []) :: (33, .if_icmp .ge 5, 38, 0, .null, []) :: B5_gather_36
set_option maxRecDepth 20000 in
theorem vB5_gather_99 : am_vl 5 false (some .int) cX5_gather B5_gather_99 = true := am_vt (tl := []) 13 0 (by decide +kernel) rfl rfl rfl
set_option maxRecDepth 20000 in
theorem vB5_gather_96 : am_vl 5 false (some .int) cX5_gather B5_gather_96 = true := am_vt (tl := B5_gather_99) 2 99 (by decide +kernel) rfl rfl vB5_gather_99
set_option maxRecDepth 20000 in
theorem vB5_gather_74 : am_vl 5 false (some .int) cX5_gather B5_gather_74 = true := am_vt (tl := B5_gather_96) 10 96 (by decide +kernel) rfl rfl vB5_gather_96
set_option maxRecDepth 20000 in
theorem vB5_gather_68 : am_vl 5 false (some .int) cX5_gather B5_gather_68 = true := am_vt (tl := B5_gather_74) 2 74 (by decide +kernel) rfl rfl vB5_gather_74
set_option maxRecDepth 20000 in
theorem vB5_gather_40 : am_vl 5 false (some .int) cX5_gather B5_gather_40 = true := am_vt (tl := B5_gather_68) 18 68 (by decide +kernel) rfl rfl vB5_gather_68
set_option maxRecDepth 20000 in
theorem vB5_gather_38 : am_vl 5 false (some .int) cX5_gather B5_gather_38 = true := am_vt (tl := B5_gather_40) 2 40 (by decide +kernel) rfl rfl vB5_gather_40
set_option maxRecDepth 20000 in
theorem vB5_gather_36 : am_vl 5 false (some .int) cX5_gather B5_gather_36 = true := am_vt (tl := B5_gather_38) 2 38 (by decide +kernel) rfl rfl vB5_gather_38
set_option maxRecDepth 20000 in
theorem vB5_gather_0 : am_vl 5 false (some .int) cX5_gather B5_gather_0 = true := am_vt (tl := B5_gather_36) 19 36 (by decide +kernel) rfl rfl vB5_gather_36
def B5_open_60 : List am_I := (60, .iload_n 1, 0, 0, .null, []) :: (61, .invokevirtual 97, 118, 1, .ref 5, []) :: (64, .iconst 1, 0, 0, .int 1, []) :: (65, .ireturn, 0, 0, .null, []) :: []
def B5_open_23 : List am_I := (23, .aload_n 0, 0, 0, .null, []) :: (24, .iconst 0, 0, 0, .int 0, []) :: (25, .invokevirtual 131, 122, 1, .ref 5, []) :: (28, .istore_n 1, 0, 0, .null, []) :: (29, .aload_n 0, 0, 0, .null, []) :: (30, .getfield 36, 5, 9, .null, []) :: (33, .aload_n 0, 0, 0, .null, []) :: (34, .getfield 100, 5, 12, .null, []) :: (37, .iconst 1, 0, 0, .int 1, []) :: (38, .isub, 0, 0, .null, []) :: (39, .aload_n 0, 0, 0, .null, []) :: (40, .getfield 26, 5, 5, .null, []) :: (43, .bipush 8, 0, 0, .int 8, []) :: (45, .iload_n 1, 0, 0, .null, []) :: (46, .imul, 0, 0, .null, []) :: (47, .iaload, 0, 0, .null, []) :: (48, .iastore, 0, 0, .null, []) :: (49, .aload_n 0, 0, 0, .null, []) :: (50, .dup, 0, 0, .null, []) :: (51, .getfield 91, 5, 16, .null, []) :: (54, .iconst 1, 0, 0, .int 1, []) :: (55, .isub, 0, 0, .null, []) :: (56, .putfield 91, 5, 16, .null, []) :: (59, .aload_n 0, 0, 0, .null, []) :: B5_open_60
def B5_open_21 : List am_I := (21, .iconst (-1), 0, 0, .int (-1), []) :: (22, .ireturn, 0, 0, .null, []) :: B5_open_23
def B5_open_0 : List am_I := (0, .aload_n 0, 0, 0, .null, []) :: (1, .invokevirtual 127, 121, 0, .ref 5, []) :: (4, .iconst 1, 0, 0, .int 1, []) :: (5, .if_icmp .lt 16, 21, 0, .null, []) :: (8, .aload_n 0, 0, 0, .null, []) :: (9, .aload_n 0, 0, 0, .null, []) :: (10, .iconst 0, 0, 0, .int 0, []) :: (11, .invokevirtual 131, 122, 1, .ref 5, []) :: (14, .invokevirtual 79, 119, 1, .ref 5, []) :: (17, .iconst 4, 0, 0, .int 4, []) :: (18, .if_icmp .eq 5, 23, 0, .null, []) :: B5_open_21
set_option maxRecDepth 20000 in
theorem vB5_open_60 : am_vl 5 false (some .int) cX5_open B5_open_60 = true := am_vt (tl := []) 4 0 (by decide +kernel) rfl rfl rfl
set_option maxRecDepth 20000 in
theorem vB5_open_23 : am_vl 5 false (some .int) cX5_open B5_open_23 = true := am_vt (tl := B5_open_60) 24 60 (by decide +kernel) rfl rfl vB5_open_60
set_option maxRecDepth 20000 in
theorem vB5_open_21 : am_vl 5 false (some .int) cX5_open B5_open_21 = true := am_vt (tl := B5_open_23) 2 23 (by decide +kernel) rfl rfl vB5_open_23
set_option maxRecDepth 20000 in
theorem vB5_open_0 : am_vl 5 false (some .int) cX5_open B5_open_0 = true := am_vt (tl := B5_open_21) 11 21 (by decide +kernel) rfl rfl vB5_open_21
def B5_apart_135 : List am_I := (135, .aload_n 0, 0, 0, .null, []) :: (136, .iload_n 1, 0, 0, .null, []) :: (137, .invokevirtual 97, 118, 1, .ref 5, []) :: (140, .iload_n 2, 0, 0, .null, []) :: (141, .ireturn, 0, 0, .null, []) :: []
def B5_apart_108 : List am_I := (108, .iload_n 3, 0, 0, .null, []) :: (109, .iload_n 2, 0, 0, .null, []) :: (110, .if_icmp .ge 25, 135, 0, .null, []) :: (113, .aload_n 0, 0, 0, .null, []) :: (114, .aload_n 0, 0, 0, .null, []) :: (115, .getfield 26, 5, 5, .null, []) :: (118, .bipush 8, 0, 0, .int 8, []) :: (120, .iload_n 1, 0, 0, .null, []) :: (121, .imul, 0, 0, .null, []) :: (122, .iload_n 3, 0, 0, .null, []) :: (123, .iadd, 0, 0, .null, []) :: (124, .iaload, 0, 0, .null, []) :: (125, .invokevirtual 121, 126, 1, .ref 5, []) :: (128, .pop, 0, 0, .null, []) :: (129, .iinc 3 1, 0, 0, .int 1, []) :: (132, .goto (-24), 108, 0, .null, []) :: B5_apart_135
def B5_apart_96 : List am_I := (96, .aload_n 0, 0, 0, .null, []) :: (97, .dup, 0, 0, .null, []) :: (98, .getfield 100, 5, 12, .null, []) :: (101, .iconst 1, 0, 0, .int 1, []) :: (102, .isub, 0, 0, .null, []) :: (103, .putfield 100, 5, 12, .null, []) :: (106, .iconst 0, 0, 0, .int 0, []) :: (107, .istore_n 3, 0, 0, .null, []) :: B5_apart_108
def B5_apart_80 : List am_I := (80, .aload_n 0, 0, 0, .null, []) :: (81, .getfield 100, 5, 12, .null, []) :: (84, .iconst 1, 0, 0, .int 1, []) :: (85, .isub, 0, 0, .null, []) :: (86, .iload_n 2, 0, 0, .null, []) :: (87, .iadd, 0, 0, .null, []) :: (88, .bipush 24, 0, 0, .int 24, []) :: (90, .if_icmp .le 6, 96, 0, .null, []) :: (93, .bipush (-2), 0, 0, .int (-2), []) :: (95, .ireturn, 0, 0, .null, []) :: B5_apart_96
def B5_apart_72 : List am_I := (72, .iadd, 0, 0, .null, []) :: (73, .istore_n 2, 0, 0, .null, []) :: (74, .iinc 3 1, 0, 0, .int 1, []) :: (77, .goto (-31), 46, 0, .null, []) :: B5_apart_80
def B5_apart_71 : List am_I := (71, .iconst 0, 0, 0, .int 0, []) :: B5_apart_72
def B5_apart_46 : List am_I := (46, .iload_n 3, 0, 0, .null, []) :: (47, .bipush 8, 0, 0, .int 8, []) :: (49, .if_icmp .ge 31, 80, 0, .null, []) :: (52, .iload_n 2, 0, 0, .null, []) :: (53, .aload_n 0, 0, 0, .null, []) :: (54, .getfield 26, 5, 5, .null, []) :: (57, .bipush 8, 0, 0, .int 8, []) :: (59, .iload_n 1, 0, 0, .null, []) :: (60, .imul, 0, 0, .null, []) :: (61, .iload_n 3, 0, 0, .null, []) :: (62, .iadd, 0, 0, .null, []) :: (63, .iaload, 0, 0, .null, []) :: (64, .ifCond .eq 7, 71, 0, .null, []) :: (67, .iconst 1, 0, 0, .int 1, []) :: (68, .goto 4, 72, 0, .null, []) :: B5_apart_71
def B5_apart_36 : List am_I := (36, .aload_n 0, 0, 0, .null, []) :: (37, .iconst 0, 0, 0, .int 0, []) :: (38, .invokevirtual 131, 122, 1, .ref 5, []) :: (41, .istore_n 1, 0, 0, .null, []) :: (42, .iconst 0, 0, 0, .int 0, []) :: (43, .istore_n 2, 0, 0, .null, []) :: (44, .iconst 0, 0, 0, .int 0, []) :: (45, .istore_n 3, 0, 0, .null, []) :: B5_apart_46
def B5_apart_34 : List am_I := (34, .iconst (-1), 0, 0, .int (-1), []) :: (35, .ireturn, 0, 0, .null, []) :: B5_apart_36
def B5_apart_0 : List am_I := (0, .aload_n 0, 0, 0, .null, []) :: (1, .invokevirtual 127, 121, 0, .ref 5, []) :: (4, .iconst 1, 0, 0, .int 1, []) :: (5, .if_icmp .lt 29, 34, 0, .null, []) :: (8, .aload_n 0, 0, 0, .null, []) :: (9, .aload_n 0, 0, 0, .null, []) :: (10, .iconst 0, 0, 0, .int 0, []) :: (11, .invokevirtual 131, 122, 1, .ref 5, []) :: (14, .invokevirtual 79, 119, 1, .ref 5, []) :: (17, .iconst 1, 0, 0, .int 1, []) :: (18, .if_icmp .eq 18, 36, 0, .null, []) :: (21, .aload_n 0, 0, 0, .null, []) :: (22, .aload_n 0, 0, 0, .null, []) :: (23, .iconst 0, 0, 0, .int 0, []) :: (24, .invokevirtual 131, 122, 1, .ref 5, []) :: (27, .invokevirtual 79, 119, 1, .ref 5, []) :: (30, .iconst 3, 0, 0, .int 3, []) :: (31, .if_icmp .eq 5, 36, 0, .null, []) :: B5_apart_34
set_option maxRecDepth 20000 in
theorem vB5_apart_135 : am_vl 5 false (some .int) cX5_apart B5_apart_135 = true := am_vt (tl := []) 5 0 (by decide +kernel) rfl rfl rfl
set_option maxRecDepth 20000 in
theorem vB5_apart_108 : am_vl 5 false (some .int) cX5_apart B5_apart_108 = true := am_vt (tl := B5_apart_135) 16 135 (by decide +kernel) rfl rfl vB5_apart_135
set_option maxRecDepth 20000 in
theorem vB5_apart_96 : am_vl 5 false (some .int) cX5_apart B5_apart_96 = true := am_vt (tl := B5_apart_108) 8 108 (by decide +kernel) rfl rfl vB5_apart_108
set_option maxRecDepth 20000 in
theorem vB5_apart_80 : am_vl 5 false (some .int) cX5_apart B5_apart_80 = true := am_vt (tl := B5_apart_96) 10 96 (by decide +kernel) rfl rfl vB5_apart_96
set_option maxRecDepth 20000 in
theorem vB5_apart_72 : am_vl 5 false (some .int) cX5_apart B5_apart_72 = true := am_vt (tl := B5_apart_80) 4 80 (by decide +kernel) rfl rfl vB5_apart_80
set_option maxRecDepth 20000 in
theorem vB5_apart_71 : am_vl 5 false (some .int) cX5_apart B5_apart_71 = true := am_vt (tl := B5_apart_72) 1 72 (by decide +kernel) rfl rfl vB5_apart_72
set_option maxRecDepth 20000 in
theorem vB5_apart_46 : am_vl 5 false (some .int) cX5_apart B5_apart_46 = true := am_vt (tl := B5_apart_71) 15 71 (by decide +kernel) rfl rfl vB5_apart_71
set_option maxRecDepth 20000 in
theorem vB5_apart_36 : am_vl 5 false (some .int) cX5_apart B5_apart_36 = true := am_vt (tl := B5_apart_46) 8 46 (by decide +kernel) rfl rfl vB5_apart_46
set_option maxRecDepth 20000 in
theorem vB5_apart_34 : am_vl 5 false (some .int) cX5_apart B5_apart_34 = true := am_vt (tl := B5_apart_36) 2 36 (by decide +kernel) rfl rfl vB5_apart_36
set_option maxRecDepth 20000 in
theorem vB5_apart_0 : am_vl 5 false (some .int) cX5_apart B5_apart_0 = true := am_vt (tl := B5_apart_34) 18 34 (by decide +kernel) rfl rfl vB5_apart_34
def B5_drop_10 : List am_I := (10, .aload_n 0, 0, 0, .null, []) :: (11, .dup, 0, 0, .null, []) :: (12, .getfield 100, 5, 12, .null, []) :: (15, .iconst 1, 0, 0, .int 1, []) :: (16, .isub, 0, 0, .null, []) :: (17, .putfield 100, 5, 12, .null, []) :: (20, .aload_n 0, 0, 0, .null, []) :: (21, .aload_n 0, 0, 0, .null, []) :: (22, .getfield 36, 5, 9, .null, []) :: (25, .aload_n 0, 0, 0, .null, []) :: (26, .getfield 100, 5, 12, .null, []) :: (29, .iaload, 0, 0, .null, []) :: (30, .invokevirtual 88, 120, 1, .ref 5, []) :: (33, .iconst 1, 0, 0, .int 1, []) :: (34, .ireturn, 0, 0, .null, []) :: []
def B5_drop_0 : List am_I := (0, .aload_n 0, 0, 0, .null, []) :: (1, .invokevirtual 127, 121, 0, .ref 5, []) :: (4, .iconst 1, 0, 0, .int 1, []) :: (5, .if_icmp .ge 5, 10, 0, .null, []) :: (8, .iconst (-1), 0, 0, .int (-1), []) :: (9, .ireturn, 0, 0, .null, []) :: B5_drop_10
set_option maxRecDepth 20000 in
theorem vB5_drop_10 : am_vl 5 false (some .int) cX5_drop B5_drop_10 = true := am_vt (tl := []) 15 0 (by decide +kernel) rfl rfl rfl
set_option maxRecDepth 20000 in
theorem vB5_drop_0 : am_vl 5 false (some .int) cX5_drop B5_drop_0 = true := am_vt (tl := B5_drop_10) 6 10 (by decide +kernel) rfl rfl vB5_drop_10
def B5_store_47 : List am_I := (47, .aload_n 0, 0, 0, .null, []) :: (48, .dup, 0, 0, .null, []) :: (49, .getfield 100, 5, 12, .null, []) :: (52, .iconst 1, 0, 0, .int 1, []) :: (53, .isub, 0, 0, .null, []) :: (54, .putfield 100, 5, 12, .null, []) :: (57, .aload_n 0, 0, 0, .null, []) :: (58, .getfield 39, 5, 10, .null, []) :: (61, .aload_n 0, 0, 0, .null, []) :: (62, .iload_n 1, 0, 0, .null, []) :: (63, .invokevirtual 104, 123, 1, .ref 5, []) :: (66, .aload_n 0, 0, 0, .null, []) :: (67, .getfield 36, 5, 9, .null, []) :: (70, .aload_n 0, 0, 0, .null, []) :: (71, .getfield 100, 5, 12, .null, []) :: (74, .iaload, 0, 0, .null, []) :: (75, .iastore, 0, 0, .null, []) :: (76, .iconst 1, 0, 0, .int 1, []) :: (77, .ireturn, 0, 0, .null, []) :: []
def B5_store_20 : List am_I := (20, .aload_n 0, 0, 0, .null, []) :: (21, .getfield 39, 5, 10, .null, []) :: (24, .aload_n 0, 0, 0, .null, []) :: (25, .iload_n 1, 0, 0, .null, []) :: (26, .invokevirtual 104, 123, 1, .ref 5, []) :: (29, .iaload, 0, 0, .null, []) :: (30, .ifCond .eq 17, 47, 0, .null, []) :: (33, .aload_n 0, 0, 0, .null, []) :: (34, .aload_n 0, 0, 0, .null, []) :: (35, .getfield 39, 5, 10, .null, []) :: (38, .aload_n 0, 0, 0, .null, []) :: (39, .iload_n 1, 0, 0, .null, []) :: (40, .invokevirtual 104, 123, 1, .ref 5, []) :: (43, .iaload, 0, 0, .null, []) :: (44, .invokevirtual 88, 120, 1, .ref 5, []) :: B5_store_47
def B5_store_18 : List am_I := (18, .iconst (-1), 0, 0, .int (-1), []) :: (19, .ireturn, 0, 0, .null, []) :: B5_store_20
def B5_store_0 : List am_I := (0, .iload_n 1, 0, 0, .null, []) :: (1, .iconst 0, 0, 0, .int 0, []) :: (2, .bipush 7, 0, 0, .int 7, []) :: (4, .invokestatic 51, 106, 3, .int 0, []) :: (7, .ifCond .eq 11, 18, 0, .null, []) :: (10, .aload_n 0, 0, 0, .null, []) :: (11, .invokevirtual 127, 121, 0, .ref 5, []) :: (14, .iconst 1, 0, 0, .int 1, []) :: (15, .if_icmp .ge 5, 20, 0, .null, []) :: B5_store_18
set_option maxRecDepth 20000 in
theorem vB5_store_47 : am_vl 5 false (some .int) cX5_store B5_store_47 = true := am_vt (tl := []) 19 0 (by decide +kernel) rfl rfl rfl
set_option maxRecDepth 20000 in
theorem vB5_store_20 : am_vl 5 false (some .int) cX5_store B5_store_20 = true := am_vt (tl := B5_store_47) 15 47 (by decide +kernel) rfl rfl vB5_store_47
set_option maxRecDepth 20000 in
theorem vB5_store_18 : am_vl 5 false (some .int) cX5_store B5_store_18 = true := am_vt (tl := B5_store_20) 2 20 (by decide +kernel) rfl rfl vB5_store_20
set_option maxRecDepth 20000 in
theorem vB5_store_0 : am_vl 5 false (some .int) cX5_store B5_store_0 = true := am_vt (tl := B5_store_18) 9 18 (by decide +kernel) rfl rfl vB5_store_18
def B5_load_37 : List am_I := (37, .aload_n 0, 0, 0, .null, []) :: (38, .getfield 39, 5, 10, .null, []) :: (41, .aload_n 0, 0, 0, .null, []) :: (42, .iload_n 1, 0, 0, .null, []) :: (43, .invokevirtual 104, 123, 1, .ref 5, []) :: (46, .iaload, 0, 0, .null, []) :: (47, .istore_n 2, 0, 0, .null, []) :: (48, .aload_n 0, 0, 0, .null, []) :: (49, .getfield 39, 5, 10, .null, []) :: (52, .aload_n 0, 0, 0, .null, []) :: (53, .iload_n 1, 0, 0, .null, []) :: (54, .invokevirtual 104, 123, 1, .ref 5, []) :: (57, .iconst 0, 0, 0, .int 0, []) :: (58, .iastore, 0, 0, .null, []) :: (59, .aload_n 0, 0, 0, .null, []) :: (60, .iload_n 2, 0, 0, .null, []) :: (61, .invokevirtual 121, 126, 1, .ref 5, []) :: (64, .ireturn, 0, 0, .null, []) :: []
def B5_load_25 : List am_I := (25, .aload_n 0, 0, 0, .null, []) :: (26, .getfield 100, 5, 12, .null, []) :: (29, .bipush 24, 0, 0, .int 24, []) :: (31, .if_icmp .ne 6, 37, 0, .null, []) :: (34, .bipush (-2), 0, 0, .int (-2), []) :: (36, .ireturn, 0, 0, .null, []) :: B5_load_37
def B5_load_23 : List am_I := (23, .iconst (-1), 0, 0, .int (-1), []) :: (24, .ireturn, 0, 0, .null, []) :: B5_load_25
def B5_load_0 : List am_I := (0, .iload_n 1, 0, 0, .null, []) :: (1, .iconst 0, 0, 0, .int 0, []) :: (2, .bipush 7, 0, 0, .int 7, []) :: (4, .invokestatic 51, 106, 3, .int 0, []) :: (7, .ifCond .eq 16, 23, 0, .null, []) :: (10, .aload_n 0, 0, 0, .null, []) :: (11, .getfield 39, 5, 10, .null, []) :: (14, .aload_n 0, 0, 0, .null, []) :: (15, .iload_n 1, 0, 0, .null, []) :: (16, .invokevirtual 104, 123, 1, .ref 5, []) :: (19, .iaload, 0, 0, .null, []) :: (20, .ifCond .ne 5, 25, 0, .null, []) :: B5_load_23
set_option maxRecDepth 20000 in
theorem vB5_load_37 : am_vl 5 false (some .int) cX5_load B5_load_37 = true := am_vt (tl := []) 18 0 (by decide +kernel) rfl rfl rfl
set_option maxRecDepth 20000 in
theorem vB5_load_25 : am_vl 5 false (some .int) cX5_load B5_load_25 = true := am_vt (tl := B5_load_37) 6 37 (by decide +kernel) rfl rfl vB5_load_37
set_option maxRecDepth 20000 in
theorem vB5_load_23 : am_vl 5 false (some .int) cX5_load B5_load_23 = true := am_vt (tl := B5_load_25) 2 25 (by decide +kernel) rfl rfl vB5_load_25
set_option maxRecDepth 20000 in
theorem vB5_load_0 : am_vl 5 false (some .int) cX5_load B5_load_0 = true := am_vt (tl := B5_load_23) 12 23 (by decide +kernel) rfl rfl vB5_load_23
def B5_set_40 : List am_I := (40, .aload_n 0, 0, 0, .null, []) :: (41, .iload_n 3, 0, 0, .null, []) :: (42, .invokevirtual 88, 120, 1, .ref 5, []) :: (45, .aload_n 0, 0, 0, .null, []) :: (46, .dup, 0, 0, .null, []) :: (47, .getfield 100, 5, 12, .null, []) :: (50, .iconst 1, 0, 0, .int 1, []) :: (51, .isub, 0, 0, .null, []) :: (52, .putfield 100, 5, 12, .null, []) :: (55, .aload_n 0, 0, 0, .null, []) :: (56, .aload_n 0, 0, 0, .null, []) :: (57, .getfield 36, 5, 9, .null, []) :: (60, .aload_n 0, 0, 0, .null, []) :: (61, .getfield 100, 5, 12, .null, []) :: (64, .iaload, 0, 0, .null, []) :: (65, .invokevirtual 144, 125, 1, .ref 5, []) :: (68, .iconst 1, 0, 0, .int 1, []) :: (69, .ireturn, 0, 0, .null, []) :: []
def B5_set_38 : List am_I := (38, .iconst (-1), 0, 0, .int (-1), []) :: (39, .ireturn, 0, 0, .null, []) :: B5_set_40
def B5_set_0 : List am_I := (0, .aload_n 0, 0, 0, .null, []) :: (1, .iload_n 1, 0, 0, .null, []) :: (2, .iload_n 2, 0, 0, .null, []) :: (3, .invokevirtual 141, 124, 2, .ref 5, []) :: (6, .istore_n 3, 0, 0, .null, []) :: (7, .iload_n 3, 0, 0, .null, []) :: (8, .ifCond .eq 30, 38, 0, .null, []) :: (11, .aload_n 0, 0, 0, .null, []) :: (12, .invokevirtual 127, 121, 0, .ref 5, []) :: (15, .iconst 1, 0, 0, .int 1, []) :: (16, .if_icmp .lt 22, 38, 0, .null, []) :: (19, .aload_n 0, 0, 0, .null, []) :: (20, .getfield 23, 5, 4, .null, []) :: (23, .aload_n 0, 0, 0, .null, []) :: (24, .iconst 0, 0, 0, .int 0, []) :: (25, .invokevirtual 131, 122, 1, .ref 5, []) :: (28, .iaload, 0, 0, .null, []) :: (29, .aload_n 0, 0, 0, .null, []) :: (30, .getfield 23, 5, 4, .null, []) :: (33, .iload_n 3, 0, 0, .null, []) :: (34, .iaload, 0, 0, .null, []) :: (35, .if_icmp .eq 5, 40, 0, .null, []) :: B5_set_38
set_option maxRecDepth 20000 in
theorem vB5_set_40 : am_vl 5 false (some .int) cX5_set B5_set_40 = true := am_vt (tl := []) 18 0 (by decide +kernel) rfl rfl rfl
set_option maxRecDepth 20000 in
theorem vB5_set_38 : am_vl 5 false (some .int) cX5_set B5_set_38 = true := am_vt (tl := B5_set_40) 2 40 (by decide +kernel) rfl rfl vB5_set_40
set_option maxRecDepth 20000 in
theorem vB5_set_0 : am_vl 5 false (some .int) cX5_set B5_set_0 = true := am_vt (tl := B5_set_38) 22 38 (by decide +kernel) rfl rfl vB5_set_38
def B5_swap_40 : List am_I := (40, .aload_n 0, 0, 0, .null, []) :: (41, .aload_n 0, 0, 0, .null, []) :: (42, .iconst 0, 0, 0, .int 0, []) :: (43, .invokevirtual 131, 122, 1, .ref 5, []) :: (46, .invokevirtual 144, 125, 1, .ref 5, []) :: (49, .aload_n 0, 0, 0, .null, []) :: (50, .getfield 36, 5, 9, .null, []) :: (53, .aload_n 0, 0, 0, .null, []) :: (54, .getfield 100, 5, 12, .null, []) :: (57, .iconst 1, 0, 0, .int 1, []) :: (58, .isub, 0, 0, .null, []) :: (59, .iload_n 3, 0, 0, .null, []) :: (60, .iastore, 0, 0, .null, []) :: (61, .iconst 1, 0, 0, .int 1, []) :: (62, .ireturn, 0, 0, .null, []) :: []
def B5_swap_38 : List am_I := (38, .iconst (-1), 0, 0, .int (-1), []) :: (39, .ireturn, 0, 0, .null, []) :: B5_swap_40
def B5_swap_0 : List am_I := (0, .aload_n 0, 0, 0, .null, []) :: (1, .iload_n 1, 0, 0, .null, []) :: (2, .iload_n 2, 0, 0, .null, []) :: (3, .invokevirtual 141, 124, 2, .ref 5, []) :: (6, .istore_n 3, 0, 0, .null, []) :: (7, .iload_n 3, 0, 0, .null, []) :: (8, .ifCond .eq 30, 38, 0, .null, []) :: (11, .aload_n 0, 0, 0, .null, []) :: (12, .invokevirtual 127, 121, 0, .ref 5, []) :: (15, .iconst 1, 0, 0, .int 1, []) :: (16, .if_icmp .lt 22, 38, 0, .null, []) :: (19, .aload_n 0, 0, 0, .null, []) :: (20, .getfield 23, 5, 4, .null, []) :: (23, .aload_n 0, 0, 0, .null, []) :: (24, .iconst 0, 0, 0, .int 0, []) :: (25, .invokevirtual 131, 122, 1, .ref 5, []) :: (28, .iaload, 0, 0, .null, []) :: (29, .aload_n 0, 0, 0, .null, []) :: (30, .getfield 23, 5, 4, .null, []) :: (33, .iload_n 3, 0, 0, .null, []) :: (34, .iaload, 0, 0, .null, []) :: (35, .if_icmp .eq 5, 40, 0, .null, []) :: B5_swap_38
set_option maxRecDepth 20000 in
theorem vB5_swap_40 : am_vl 5 false (some .int) cX5_swap B5_swap_40 = true := am_vt (tl := []) 15 0 (by decide +kernel) rfl rfl rfl
set_option maxRecDepth 20000 in
theorem vB5_swap_38 : am_vl 5 false (some .int) cX5_swap B5_swap_38 = true := am_vt (tl := B5_swap_40) 2 40 (by decide +kernel) rfl rfl vB5_swap_40
set_option maxRecDepth 20000 in
theorem vB5_swap_0 : am_vl 5 false (some .int) cX5_swap B5_swap_0 = true := am_vt (tl := B5_swap_38) 22 38 (by decide +kernel) rfl rfl vB5_swap_38
def B5_push_109 : List am_I := (109, .getfield 29, 5, 6, .null, []) :: (112, .iload_n 3, 0, 0, .null, []) :: (113, .dup2, 0, 0, .null, []) :: (114, .laload, 0, 0, .null, []) :: (115, .lconst 1, 0, 0, .long 1, []) :: (116, .ladd, 0, 0, .null, []) :: (117, .lastore, 0, 0, .null, []) :: (118, .aload_n 0, 0, 0, .null, []) :: (119, .getfield 29, 5, 6, .null, []) :: (122, .iload_n 3, 0, 0, .null, []) :: (123, .laload, 0, 0, .null, []) :: (124, .l2i, 0, 0, .null, []) :: (125, .ireturn, 0, 0, .null, []) :: []
def B5_push_72 : List am_I := (72, .aload_n 0, 0, 0, .null, []) :: (73, .dup, 0, 0, .null, []) :: (74, .getfield 100, 5, 12, .null, []) :: (77, .iconst 1, 0, 0, .int 1, []) :: (78, .isub, 0, 0, .null, []) :: (79, .putfield 100, 5, 12, .null, []) :: (82, .aload_n 0, 0, 0, .null, []) :: (83, .getfield 26, 5, 5, .null, []) :: (86, .bipush 8, 0, 0, .int 8, []) :: (88, .iload_n 3, 0, 0, .null, []) :: (89, .imul, 0, 0, .null, []) :: (90, .aload_n 0, 0, 0, .null, []) :: (91, .getfield 29, 5, 6, .null, []) :: (94, .iload_n 3, 0, 0, .null, []) :: (95, .laload, 0, 0, .null, []) :: (96, .l2i, 0, 0, .null, []) :: (97, .iadd, 0, 0, .null, []) :: (98, .aload_n 0, 0, 0, .null, []) :: (99, .getfield 36, 5, 9, .null, []) :: (102, .aload_n 0, 0, 0, .null, []) :: (103, .getfield 100, 5, 12, .null, []) :: (106, .iaload, 0, 0, .null, []) :: (107, .iastore, 0, 0, .null, []) :: (108, .aload_n 0, 0, 0, .null, []) :: B5_push_109
def B5_push_56 : List am_I := (56, .aload_n 0, 0, 0, .null, []) :: (57, .getfield 29, 5, 6, .null, []) :: (60, .iload_n 3, 0, 0, .null, []) :: (61, .laload, 0, 0, .null, []) :: (62, .ldc2_w 147, 0, 0, .long 8, []) :: (65, .lcmp, 0, 0, .null, []) :: (66, .ifCond .ne 6, 72, 0, .null, []) :: (69, .bipush (-2), 0, 0, .int (-2), []) :: (71, .ireturn, 0, 0, .null, []) :: B5_push_72
def B5_push_54 : List am_I := (54, .iconst (-1), 0, 0, .int (-1), []) :: (55, .ireturn, 0, 0, .null, []) :: B5_push_56
def B5_push_42 : List am_I := (42, .iconst 3, 0, 0, .int 3, []) :: (43, .aload_n 0, 0, 0, .null, []) :: (44, .getfield 23, 5, 4, .null, []) :: (47, .iload_n 3, 0, 0, .null, []) :: (48, .iaload, 0, 0, .null, []) :: (49, .imul, 0, 0, .null, []) :: (50, .iaload, 0, 0, .null, []) :: (51, .if_icmp .eq 5, 56, 0, .null, []) :: B5_push_54
def B5_push_0 : List am_I := (0, .aload_n 0, 0, 0, .null, []) :: (1, .iload_n 1, 0, 0, .null, []) :: (2, .iload_n 2, 0, 0, .null, []) :: (3, .invokevirtual 141, 124, 2, .ref 5, []) :: (6, .istore_n 3, 0, 0, .null, []) :: (7, .iload_n 3, 0, 0, .null, []) :: (8, .ifCond .eq 46, 54, 0, .null, []) :: (11, .aload_n 0, 0, 0, .null, []) :: (12, .iload_n 3, 0, 0, .null, []) :: (13, .invokevirtual 79, 119, 1, .ref 5, []) :: (16, .iconst 5, 0, 0, .int 5, []) :: (17, .if_icmp .ne 37, 54, 0, .null, []) :: (20, .aload_n 0, 0, 0, .null, []) :: (21, .invokevirtual 127, 121, 0, .ref 5, []) :: (24, .iconst 1, 0, 0, .int 1, []) :: (25, .if_icmp .lt 29, 54, 0, .null, []) :: (28, .aload_n 0, 0, 0, .null, []) :: (29, .getfield 23, 5, 4, .null, []) :: (32, .aload_n 0, 0, 0, .null, []) :: (33, .iconst 0, 0, 0, .int 0, []) :: (34, .invokevirtual 131, 122, 1, .ref 5, []) :: (37, .iaload, 0, 0, .null, []) :: (38, .aload_n 0, 0, 0, .null, []) :: (39, .getfield 16, 5, 2, .null, []) :: B5_push_42
set_option maxRecDepth 20000 in
theorem vB5_push_109 : am_vl 5 false (some .int) cX5_push B5_push_109 = true := am_vt (tl := []) 13 0 (by decide +kernel) rfl rfl rfl
set_option maxRecDepth 20000 in
theorem vB5_push_72 : am_vl 5 false (some .int) cX5_push B5_push_72 = true := am_vt (tl := B5_push_109) 24 109 (by decide +kernel) rfl rfl vB5_push_109
set_option maxRecDepth 20000 in
theorem vB5_push_56 : am_vl 5 false (some .int) cX5_push B5_push_56 = true := am_vt (tl := B5_push_72) 9 72 (by decide +kernel) rfl rfl vB5_push_72
set_option maxRecDepth 20000 in
theorem vB5_push_54 : am_vl 5 false (some .int) cX5_push B5_push_54 = true := am_vt (tl := B5_push_56) 2 56 (by decide +kernel) rfl rfl vB5_push_56
set_option maxRecDepth 20000 in
theorem vB5_push_42 : am_vl 5 false (some .int) cX5_push B5_push_42 = true := am_vt (tl := B5_push_54) 8 54 (by decide +kernel) rfl rfl vB5_push_54
set_option maxRecDepth 20000 in
theorem vB5_push_0 : am_vl 5 false (some .int) cX5_push B5_push_0 = true := am_vt (tl := B5_push_42) 24 42 (by decide +kernel) rfl rfl vB5_push_42
def B5_pop_80 : List am_I := (80, .istore 5, 0, 0, .null, []) :: (82, .aload_n 0, 0, 0, .null, []) :: (83, .getfield 26, 5, 5, .null, []) :: (86, .iload 4, 0, 0, .null, []) :: (88, .iconst 0, 0, 0, .int 0, []) :: (89, .iastore, 0, 0, .null, []) :: (90, .aload_n 0, 0, 0, .null, []) :: (91, .getfield 29, 5, 6, .null, []) :: (94, .iload_n 3, 0, 0, .null, []) :: (95, .laload, 0, 0, .null, []) :: (96, .l2i, 0, 0, .null, []) :: (97, .ireturn, 0, 0, .null, []) :: []
def B5_pop_45 : List am_I := (45, .aload_n 0, 0, 0, .null, []) :: (46, .getfield 29, 5, 6, .null, []) :: (49, .iload_n 3, 0, 0, .null, []) :: (50, .dup2, 0, 0, .null, []) :: (51, .laload, 0, 0, .null, []) :: (52, .lconst 1, 0, 0, .long 1, []) :: (53, .lsub, 0, 0, .null, []) :: (54, .lastore, 0, 0, .null, []) :: (55, .bipush 8, 0, 0, .int 8, []) :: (57, .iload_n 3, 0, 0, .null, []) :: (58, .imul, 0, 0, .null, []) :: (59, .aload_n 0, 0, 0, .null, []) :: (60, .getfield 29, 5, 6, .null, []) :: (63, .iload_n 3, 0, 0, .null, []) :: (64, .laload, 0, 0, .null, []) :: (65, .l2i, 0, 0, .null, []) :: (66, .iadd, 0, 0, .null, []) :: (67, .istore 4, 0, 0, .null, []) :: (69, .aload_n 0, 0, 0, .null, []) :: (70, .aload_n 0, 0, 0, .null, []) :: (71, .getfield 26, 5, 5, .null, []) :: (74, .iload 4, 0, 0, .null, []) :: (76, .iaload, 0, 0, .null, []) :: (77, .invokevirtual 121, 126, 1, .ref 5, []) :: B5_pop_80
def B5_pop_33 : List am_I := (33, .aload_n 0, 0, 0, .null, []) :: (34, .getfield 100, 5, 12, .null, []) :: (37, .bipush 24, 0, 0, .int 24, []) :: (39, .if_icmp .ne 6, 45, 0, .null, []) :: (42, .bipush (-2), 0, 0, .int (-2), []) :: (44, .ireturn, 0, 0, .null, []) :: B5_pop_45
def B5_pop_31 : List am_I := (31, .iconst (-1), 0, 0, .int (-1), []) :: (32, .ireturn, 0, 0, .null, []) :: B5_pop_33
def B5_pop_0 : List am_I := (0, .aload_n 0, 0, 0, .null, []) :: (1, .iload_n 1, 0, 0, .null, []) :: (2, .iload_n 2, 0, 0, .null, []) :: (3, .invokevirtual 141, 124, 2, .ref 5, []) :: (6, .istore_n 3, 0, 0, .null, []) :: (7, .iload_n 3, 0, 0, .null, []) :: (8, .ifCond .eq 23, 31, 0, .null, []) :: (11, .aload_n 0, 0, 0, .null, []) :: (12, .iload_n 3, 0, 0, .null, []) :: (13, .invokevirtual 79, 119, 1, .ref 5, []) :: (16, .iconst 5, 0, 0, .int 5, []) :: (17, .if_icmp .ne 14, 31, 0, .null, []) :: (20, .aload_n 0, 0, 0, .null, []) :: (21, .getfield 29, 5, 6, .null, []) :: (24, .iload_n 3, 0, 0, .null, []) :: (25, .laload, 0, 0, .null, []) :: (26, .lconst 0, 0, 0, .long 0, []) :: (27, .lcmp, 0, 0, .null, []) :: (28, .ifCond .ne 5, 33, 0, .null, []) :: B5_pop_31
set_option maxRecDepth 20000 in
theorem vB5_pop_80 : am_vl 5 false (some .int) cX5_pop B5_pop_80 = true := am_vt (tl := []) 12 0 (by decide +kernel) rfl rfl rfl
set_option maxRecDepth 20000 in
theorem vB5_pop_45 : am_vl 5 false (some .int) cX5_pop B5_pop_45 = true := am_vt (tl := B5_pop_80) 24 80 (by decide +kernel) rfl rfl vB5_pop_80
set_option maxRecDepth 20000 in
theorem vB5_pop_33 : am_vl 5 false (some .int) cX5_pop B5_pop_33 = true := am_vt (tl := B5_pop_45) 6 45 (by decide +kernel) rfl rfl vB5_pop_45
set_option maxRecDepth 20000 in
theorem vB5_pop_31 : am_vl 5 false (some .int) cX5_pop B5_pop_31 = true := am_vt (tl := B5_pop_33) 2 33 (by decide +kernel) rfl rfl vB5_pop_33
set_option maxRecDepth 20000 in
theorem vB5_pop_0 : am_vl 5 false (some .int) cX5_pop B5_pop_0 = true := am_vt (tl := B5_pop_31) 19 31 (by decide +kernel) rfl rfl vB5_pop_31
def B5_enter_109 : List am_I := (109, .aload_n 0, 0, 0, .null, []) :: (110, .getfield 45, 5, 13, .null, []) :: (113, .ireturn, 0, 0, .null, []) :: []
def B5_enter_102 : List am_I := (102, .iastore, 0, 0, .null, []) :: (103, .iinc 2 1, 0, 0, .int 1, []) :: (106, .goto (-39), 67, 0, .null, []) :: B5_enter_109
def B5_enter_101 : List am_I := (101, .iconst 0, 0, 0, .int 0, []) :: B5_enter_102
def B5_enter_67 : List am_I := (67, .iload_n 2, 0, 0, .null, []) :: (68, .bipush 8, 0, 0, .int 8, []) :: (70, .if_icmp .ge 39, 109, 0, .null, []) :: (73, .aload_n 0, 0, 0, .null, []) :: (74, .getfield 39, 5, 10, .null, []) :: (77, .aload_n 0, 0, 0, .null, []) :: (78, .iload_n 2, 0, 0, .null, []) :: (79, .invokevirtual 104, 123, 1, .ref 5, []) :: (82, .iload_n 2, 0, 0, .null, []) :: (83, .iload_n 1, 0, 0, .null, []) :: (84, .if_icmp .ge 17, 101, 0, .null, []) :: (87, .aload_n 0, 0, 0, .null, []) :: (88, .getfield 36, 5, 9, .null, []) :: (91, .aload_n 0, 0, 0, .null, []) :: (92, .getfield 100, 5, 12, .null, []) :: (95, .iload_n 2, 0, 0, .null, []) :: (96, .iadd, 0, 0, .null, []) :: (97, .iaload, 0, 0, .null, []) :: (98, .goto 4, 102, 0, .null, []) :: B5_enter_101
def B5_enter_32 : List am_I := (32, .aload_n 0, 0, 0, .null, []) :: (33, .dup, 0, 0, .null, []) :: (34, .getfield 100, 5, 12, .null, []) :: (37, .iload_n 1, 0, 0, .null, []) :: (38, .isub, 0, 0, .null, []) :: (39, .putfield 100, 5, 12, .null, []) :: (42, .aload_n 0, 0, 0, .null, []) :: (43, .dup, 0, 0, .null, []) :: (44, .getfield 45, 5, 13, .null, []) :: (47, .iconst 1, 0, 0, .int 1, []) :: (48, .iadd, 0, 0, .null, []) :: (49, .putfield 45, 5, 13, .null, []) :: (52, .aload_n 0, 0, 0, .null, []) :: (53, .getfield 42, 5, 11, .null, []) :: (56, .aload_n 0, 0, 0, .null, []) :: (57, .getfield 45, 5, 13, .null, []) :: (60, .aload_n 0, 0, 0, .null, []) :: (61, .getfield 100, 5, 12, .null, []) :: (64, .iastore, 0, 0, .null, []) :: (65, .iconst 0, 0, 0, .int 0, []) :: (66, .istore_n 2, 0, 0, .null, []) :: B5_enter_67
def B5_enter_20 : List am_I := (20, .aload_n 0, 0, 0, .null, []) :: (21, .getfield 45, 5, 13, .null, []) :: (24, .bipush 12, 0, 0, .int 12, []) :: (26, .if_icmp .ne 6, 32, 0, .null, []) :: (29, .bipush (-2), 0, 0, .int (-2), []) :: (31, .ireturn, 0, 0, .null, []) :: B5_enter_32
def B5_enter_18 : List am_I := (18, .iconst (-1), 0, 0, .int (-1), []) :: (19, .ireturn, 0, 0, .null, []) :: B5_enter_20
def B5_enter_0 : List am_I := (0, .iload_n 1, 0, 0, .null, []) :: (1, .iconst 0, 0, 0, .int 0, []) :: (2, .bipush 8, 0, 0, .int 8, []) :: (4, .invokestatic 51, 106, 3, .int 0, []) :: (7, .ifCond .eq 11, 18, 0, .null, []) :: (10, .aload_n 0, 0, 0, .null, []) :: (11, .invokevirtual 127, 121, 0, .ref 5, []) :: (14, .iload_n 1, 0, 0, .null, []) :: (15, .if_icmp .ge 5, 20, 0, .null, []) :: B5_enter_18
set_option maxRecDepth 20000 in
theorem vB5_enter_109 : am_vl 5 false (some .int) cX5_enter B5_enter_109 = true := am_vt (tl := []) 3 0 (by decide +kernel) rfl rfl rfl
set_option maxRecDepth 20000 in
theorem vB5_enter_102 : am_vl 5 false (some .int) cX5_enter B5_enter_102 = true := am_vt (tl := B5_enter_109) 3 109 (by decide +kernel) rfl rfl vB5_enter_109
set_option maxRecDepth 20000 in
theorem vB5_enter_101 : am_vl 5 false (some .int) cX5_enter B5_enter_101 = true := am_vt (tl := B5_enter_102) 1 102 (by decide +kernel) rfl rfl vB5_enter_102
set_option maxRecDepth 20000 in
theorem vB5_enter_67 : am_vl 5 false (some .int) cX5_enter B5_enter_67 = true := am_vt (tl := B5_enter_101) 19 101 (by decide +kernel) rfl rfl vB5_enter_101
set_option maxRecDepth 20000 in
theorem vB5_enter_32 : am_vl 5 false (some .int) cX5_enter B5_enter_32 = true := am_vt (tl := B5_enter_67) 21 67 (by decide +kernel) rfl rfl vB5_enter_67
set_option maxRecDepth 20000 in
theorem vB5_enter_20 : am_vl 5 false (some .int) cX5_enter B5_enter_20 = true := am_vt (tl := B5_enter_32) 6 32 (by decide +kernel) rfl rfl vB5_enter_32
set_option maxRecDepth 20000 in
theorem vB5_enter_18 : am_vl 5 false (some .int) cX5_enter B5_enter_18 = true := am_vt (tl := B5_enter_20) 2 20 (by decide +kernel) rfl rfl vB5_enter_20
set_option maxRecDepth 20000 in
theorem vB5_enter_0 : am_vl 5 false (some .int) cX5_enter B5_enter_0 = true := am_vt (tl := B5_enter_18) 9 18 (by decide +kernel) rfl rfl vB5_enter_18
def B5_empty_84 : List am_I := (84, .return_, 0, 0, .null, []) :: []
def B5_empty_67 : List am_I := (67, .aload_n 0, 0, 0, .null, []) :: (68, .getfield 39, 5, 10, .null, []) :: (71, .aload_n 0, 0, 0, .null, []) :: (72, .iload_n 1, 0, 0, .null, []) :: (73, .invokevirtual 104, 123, 1, .ref 5, []) :: (76, .iconst 0, 0, 0, .int 0, []) :: (77, .iastore, 0, 0, .null, []) :: (78, .iinc 1 (-1), 0, 0, .int (-1), []) :: (81, .goto (-45), 36, 0, .null, []) :: B5_empty_84
def B5_empty_36 : List am_I := (36, .iload_n 1, 0, 0, .null, []) :: (37, .ifCond .lt 47, 84, 0, .null, []) :: (40, .aload_n 0, 0, 0, .null, []) :: (41, .getfield 39, 5, 10, .null, []) :: (44, .aload_n 0, 0, 0, .null, []) :: (45, .iload_n 1, 0, 0, .null, []) :: (46, .invokevirtual 104, 123, 1, .ref 5, []) :: (49, .iaload, 0, 0, .null, []) :: (50, .ifCond .eq 17, 67, 0, .null, []) :: (53, .aload_n 0, 0, 0, .null, []) :: (54, .aload_n 0, 0, 0, .null, []) :: (55, .getfield 39, 5, 10, .null, []) :: (58, .aload_n 0, 0, 0, .null, []) :: (59, .iload_n 1, 0, 0, .null, []) :: (60, .invokevirtual 104, 123, 1, .ref 5, []) :: (63, .iaload, 0, 0, .null, []) :: (64, .invokevirtual 88, 120, 1, .ref 5, []) :: B5_empty_67
def B5_empty_33 : List am_I := (33, .bipush 7, 0, 0, .int 7, []) :: (35, .istore_n 1, 0, 0, .null, []) :: B5_empty_36
def B5_empty_0 : List am_I := (0, .aload_n 0, 0, 0, .null, []) :: (1, .invokevirtual 127, 121, 0, .ref 5, []) :: (4, .ifCond .le 29, 33, 0, .null, []) :: (7, .aload_n 0, 0, 0, .null, []) :: (8, .dup, 0, 0, .null, []) :: (9, .getfield 100, 5, 12, .null, []) :: (12, .iconst 1, 0, 0, .int 1, []) :: (13, .isub, 0, 0, .null, []) :: (14, .putfield 100, 5, 12, .null, []) :: (17, .aload_n 0, 0, 0, .null, []) :: (18, .aload_n 0, 0, 0, .null, []) :: (19, .getfield 36, 5, 9, .null, []) :: (22, .aload_n 0, 0, 0, .null, []) :: (23, .getfield 100, 5, 12, .null, []) :: (26, .iaload, 0, 0, .null, []) :: (27, .invokevirtual 88, 120, 1, .ref 5, []) :: (30, .goto (-30), 0, 0, .null, []) :: B5_empty_33
set_option maxRecDepth 20000 in
theorem vB5_empty_84 : am_vl 5 false none cX5_empty B5_empty_84 = true := am_vt (tl := []) 1 0 (by decide +kernel) rfl rfl rfl
set_option maxRecDepth 20000 in
theorem vB5_empty_67 : am_vl 5 false none cX5_empty B5_empty_67 = true := am_vt (tl := B5_empty_84) 9 84 (by decide +kernel) rfl rfl vB5_empty_84
set_option maxRecDepth 20000 in
theorem vB5_empty_36 : am_vl 5 false none cX5_empty B5_empty_36 = true := am_vt (tl := B5_empty_67) 17 67 (by decide +kernel) rfl rfl vB5_empty_67
set_option maxRecDepth 20000 in
theorem vB5_empty_33 : am_vl 5 false none cX5_empty B5_empty_33 = true := am_vt (tl := B5_empty_36) 2 36 (by decide +kernel) rfl rfl vB5_empty_36
set_option maxRecDepth 20000 in
theorem vB5_empty_0 : am_vl 5 false none cX5_empty B5_empty_0 = true := am_vt (tl := B5_empty_33) 17 33 (by decide +kernel) rfl rfl vB5_empty_33
def B5_leave_75 : List am_I := (75, .istore_n 3, 0, 0, .null, []) :: (76, .aload_n 0, 0, 0, .null, []) :: (77, .getfield 45, 5, 13, .null, []) :: (80, .ireturn, 0, 0, .null, []) :: []
def B5_leave_70 : List am_I := (70, .aload_n 0, 0, 0, .null, []) :: (71, .iload_n 2, 0, 0, .null, []) :: (72, .invokevirtual 121, 126, 1, .ref 5, []) :: B5_leave_75
def B5_leave_48 : List am_I := (48, .aload_n 0, 0, 0, .null, []) :: (49, .invokevirtual 149, 142, 0, .ref 5, []) :: (52, .aload_n 0, 0, 0, .null, []) :: (53, .dup, 0, 0, .null, []) :: (54, .getfield 45, 5, 13, .null, []) :: (57, .iconst 1, 0, 0, .int 1, []) :: (58, .isub, 0, 0, .null, []) :: (59, .putfield 45, 5, 13, .null, []) :: (62, .iload_n 2, 0, 0, .null, []) :: (63, .ifCond .ne 7, 70, 0, .null, []) :: (66, .iconst 0, 0, 0, .int 0, []) :: (67, .goto 8, 75, 0, .null, []) :: B5_leave_70
def B5_leave_22 : List am_I := (22, .iconst 0, 0, 0, .int 0, []) :: (23, .istore_n 2, 0, 0, .null, []) :: (24, .iload_n 1, 0, 0, .null, []) :: (25, .ifCond .eq 23, 48, 0, .null, []) :: (28, .aload_n 0, 0, 0, .null, []) :: (29, .dup, 0, 0, .null, []) :: (30, .getfield 100, 5, 12, .null, []) :: (33, .iconst 1, 0, 0, .int 1, []) :: (34, .isub, 0, 0, .null, []) :: (35, .putfield 100, 5, 12, .null, []) :: (38, .aload_n 0, 0, 0, .null, []) :: (39, .getfield 36, 5, 9, .null, []) :: (42, .aload_n 0, 0, 0, .null, []) :: (43, .getfield 100, 5, 12, .null, []) :: (46, .iaload, 0, 0, .null, []) :: (47, .istore_n 2, 0, 0, .null, []) :: B5_leave_48
def B5_leave_20 : List am_I := (20, .iconst (-1), 0, 0, .int (-1), []) :: (21, .ireturn, 0, 0, .null, []) :: B5_leave_22
def B5_leave_0 : List am_I := (0, .aload_n 0, 0, 0, .null, []) :: (1, .getfield 45, 5, 13, .null, []) :: (4, .iconst 1, 0, 0, .int 1, []) :: (5, .if_icmp .eq 15, 20, 0, .null, []) :: (8, .iload_n 1, 0, 0, .null, []) :: (9, .ifCond .eq 13, 22, 0, .null, []) :: (12, .aload_n 0, 0, 0, .null, []) :: (13, .invokevirtual 127, 121, 0, .ref 5, []) :: (16, .iconst 1, 0, 0, .int 1, []) :: (17, .if_icmp .ge 5, 22, 0, .null, []) :: B5_leave_20
set_option maxRecDepth 20000 in
theorem vB5_leave_75 : am_vl 5 false (some .int) cX5_leave B5_leave_75 = true := am_vt (tl := []) 4 0 (by decide +kernel) rfl rfl rfl
set_option maxRecDepth 20000 in
theorem vB5_leave_70 : am_vl 5 false (some .int) cX5_leave B5_leave_70 = true := am_vt (tl := B5_leave_75) 3 75 (by decide +kernel) rfl rfl vB5_leave_75
set_option maxRecDepth 20000 in
theorem vB5_leave_48 : am_vl 5 false (some .int) cX5_leave B5_leave_48 = true := am_vt (tl := B5_leave_70) 12 70 (by decide +kernel) rfl rfl vB5_leave_70
set_option maxRecDepth 20000 in
theorem vB5_leave_22 : am_vl 5 false (some .int) cX5_leave B5_leave_22 = true := am_vt (tl := B5_leave_48) 16 48 (by decide +kernel) rfl rfl vB5_leave_48
set_option maxRecDepth 20000 in
theorem vB5_leave_20 : am_vl 5 false (some .int) cX5_leave B5_leave_20 = true := am_vt (tl := B5_leave_22) 2 22 (by decide +kernel) rfl rfl vB5_leave_22
set_option maxRecDepth 20000 in
theorem vB5_leave_0 : am_vl 5 false (some .int) cX5_leave B5_leave_0 = true := am_vt (tl := B5_leave_20) 10 20 (by decide +kernel) rfl rfl vB5_leave_20
def B5_fail_34 : List am_I := (34, .iload_n 1, 0, 0, .null, []) :: (35, .ireturn, 0, 0, .null, []) :: []
def B5_fail_9 : List am_I := (9, .aload_n 0, 0, 0, .null, []) :: (10, .getfield 45, 5, 13, .null, []) :: (13, .iconst 1, 0, 0, .int 1, []) :: (14, .if_icmp .le 20, 34, 0, .null, []) :: (17, .aload_n 0, 0, 0, .null, []) :: (18, .dup, 0, 0, .null, []) :: (19, .getfield 45, 5, 13, .null, []) :: (22, .iconst 1, 0, 0, .int 1, []) :: (23, .isub, 0, 0, .null, []) :: (24, .putfield 45, 5, 13, .null, []) :: (27, .aload_n 0, 0, 0, .null, []) :: (28, .invokevirtual 149, 142, 0, .ref 5, []) :: (31, .goto (-22), 9, 0, .null, []) :: B5_fail_34
def B5_fail_0 : List am_I := (0, .aload_n 0, 0, 0, .null, []) :: (1, .getfield 45, 5, 13, .null, []) :: (4, .istore_n 1, 0, 0, .null, []) :: (5, .aload_n 0, 0, 0, .null, []) :: (6, .invokevirtual 149, 142, 0, .ref 5, []) :: B5_fail_9
set_option maxRecDepth 20000 in
theorem vB5_fail_34 : am_vl 5 false (some .int) cX5_fail B5_fail_34 = true := am_vt (tl := []) 2 0 (by decide +kernel) rfl rfl rfl
set_option maxRecDepth 20000 in
theorem vB5_fail_9 : am_vl 5 false (some .int) cX5_fail B5_fail_9 = true := am_vt (tl := B5_fail_34) 13 34 (by decide +kernel) rfl rfl vB5_fail_34
set_option maxRecDepth 20000 in
theorem vB5_fail_0 : am_vl 5 false (some .int) cX5_fail B5_fail_0 = true := am_vt (tl := B5_fail_9) 5 9 (by decide +kernel) rfl rfl vB5_fail_9
def B5_shape_21 : List am_I := (21, .ireturn, 0, 0, .null, []) :: []
def B5_shape_15 : List am_I := (15, .aload_n 0, 0, 0, .null, []) :: (16, .getfield 23, 5, 4, .null, []) :: (19, .iload_n 3, 0, 0, .null, []) :: (20, .iaload, 0, 0, .null, []) :: B5_shape_21
def B5_shape_0 : List am_I := (0, .aload_n 0, 0, 0, .null, []) :: (1, .iload_n 1, 0, 0, .null, []) :: (2, .iload_n 2, 0, 0, .null, []) :: (3, .invokevirtual 141, 124, 2, .ref 5, []) :: (6, .istore_n 3, 0, 0, .null, []) :: (7, .iload_n 3, 0, 0, .null, []) :: (8, .ifCond .ne 7, 15, 0, .null, []) :: (11, .iconst (-1), 0, 0, .int (-1), []) :: (12, .goto 9, 21, 0, .null, []) :: B5_shape_15
set_option maxRecDepth 20000 in
theorem vB5_shape_21 : am_vl 5 false (some .int) cX5_shape B5_shape_21 = true := am_vt (tl := []) 1 0 (by decide +kernel) rfl rfl rfl
set_option maxRecDepth 20000 in
theorem vB5_shape_15 : am_vl 5 false (some .int) cX5_shape B5_shape_15 = true := am_vt (tl := B5_shape_21) 4 21 (by decide +kernel) rfl rfl vB5_shape_21
set_option maxRecDepth 20000 in
theorem vB5_shape_0 : am_vl 5 false (some .int) cX5_shape B5_shape_0 = true := am_vt (tl := B5_shape_15) 9 15 (by decide +kernel) rfl rfl vB5_shape_15
def B5_look_29 : List am_I := (29, .lreturn, 0, 0, .null, []) :: []
def B5_look_28 : List am_I := (28, .lconst 0, 0, 0, .long 0, []) :: B5_look_29
def B5_look_0 : List am_I := (0, .aload_n 0, 0, 0, .null, []) :: (1, .iload_n 1, 0, 0, .null, []) :: (2, .iload_n 2, 0, 0, .null, []) :: (3, .invokevirtual 141, 124, 2, .ref 5, []) :: (6, .istore_n 3, 0, 0, .null, []) :: (7, .iload_n 3, 0, 0, .null, []) :: (8, .ifCond .eq 20, 28, 0, .null, []) :: (11, .aload_n 0, 0, 0, .null, []) :: (12, .iload_n 3, 0, 0, .null, []) :: (13, .invokevirtual 79, 119, 1, .ref 5, []) :: (16, .ifCond .ne 12, 28, 0, .null, []) :: (19, .aload_n 0, 0, 0, .null, []) :: (20, .getfield 29, 5, 6, .null, []) :: (23, .iload_n 3, 0, 0, .null, []) :: (24, .laload, 0, 0, .null, []) :: (25, .goto 4, 29, 0, .null, []) :: B5_look_28
set_option maxRecDepth 20000 in
theorem vB5_look_29 : am_vl 5 false (some .long) cX5_look B5_look_29 = true := am_vt (tl := []) 1 0 (by decide +kernel) rfl rfl rfl
set_option maxRecDepth 20000 in
theorem vB5_look_28 : am_vl 5 false (some .long) cX5_look B5_look_28 = true := am_vt (tl := B5_look_29) 1 29 (by decide +kernel) rfl rfl vB5_look_29
set_option maxRecDepth 20000 in
theorem vB5_look_0 : am_vl 5 false (some .long) cX5_look B5_look_0 = true := am_vt (tl := B5_look_28) 16 28 (by decide +kernel) rfl rfl vB5_look_28
def B5_state_40 : List am_I := (40, .ireturn, 0, 0, .null, []) :: []
def B5_state_39 : List am_I := (39, .iconst (-1), 0, 0, .int (-1), []) :: B5_state_40
def B5_state_29 : List am_I := (29, .aload_n 0, 0, 0, .null, []) :: (30, .getfield 29, 5, 6, .null, []) :: (33, .iload_n 3, 0, 0, .null, []) :: (34, .laload, 0, 0, .null, []) :: (35, .l2i, 0, 0, .null, []) :: (36, .goto 4, 40, 0, .null, []) :: B5_state_39
def B5_state_0 : List am_I := (0, .aload_n 0, 0, 0, .null, []) :: (1, .iload_n 1, 0, 0, .null, []) :: (2, .iload_n 2, 0, 0, .null, []) :: (3, .invokevirtual 141, 124, 2, .ref 5, []) :: (6, .istore_n 3, 0, 0, .null, []) :: (7, .iload_n 3, 0, 0, .null, []) :: (8, .ifCond .eq 31, 39, 0, .null, []) :: (11, .aload_n 0, 0, 0, .null, []) :: (12, .iload_n 3, 0, 0, .null, []) :: (13, .invokevirtual 79, 119, 1, .ref 5, []) :: (16, .iconst 3, 0, 0, .int 3, []) :: (17, .if_icmp .eq 12, 29, 0, .null, []) :: (20, .aload_n 0, 0, 0, .null, []) :: (21, .iload_n 3, 0, 0, .null, []) :: (22, .invokevirtual 79, 119, 1, .ref 5, []) :: (25, .iconst 5, 0, 0, .int 5, []) :: (26, .if_icmp .ne 13, 39, 0, .null, []) :: B5_state_29
set_option maxRecDepth 20000 in
theorem vB5_state_40 : am_vl 5 false (some .int) cX5_state B5_state_40 = true := am_vt (tl := []) 1 0 (by decide +kernel) rfl rfl rfl
set_option maxRecDepth 20000 in
theorem vB5_state_39 : am_vl 5 false (some .int) cX5_state B5_state_39 = true := am_vt (tl := B5_state_40) 1 40 (by decide +kernel) rfl rfl vB5_state_40
set_option maxRecDepth 20000 in
theorem vB5_state_29 : am_vl 5 false (some .int) cX5_state B5_state_29 = true := am_vt (tl := B5_state_39) 6 39 (by decide +kernel) rfl rfl vB5_state_39
set_option maxRecDepth 20000 in
theorem vB5_state_0 : am_vl 5 false (some .int) cX5_state B5_state_0 = true := am_vt (tl := B5_state_29) 17 29 (by decide +kernel) rfl rfl vB5_state_29
def B5_out_24 : List am_I := (24, .lreturn, 0, 0, .null, []) :: []
def B5_out_23 : List am_I := (23, .lconst 0, 0, 0, .long 0, []) :: B5_out_24
def B5_out_0 : List am_I := (0, .iload_n 1, 0, 0, .null, []) :: (1, .iconst 0, 0, 0, .int 0, []) :: (2, .aload_n 0, 0, 0, .null, []) :: (3, .getfield 82, 5, 15, .null, []) :: (6, .iconst 1, 0, 0, .int 1, []) :: (7, .isub, 0, 0, .null, []) :: (8, .invokestatic 51, 106, 3, .int 0, []) :: (11, .ifCond .eq 12, 23, 0, .null, []) :: (14, .aload_n 0, 0, 0, .null, []) :: (15, .getfield 48, 5, 14, .null, []) :: (18, .iload_n 1, 0, 0, .null, []) :: (19, .laload, 0, 0, .null, []) :: (20, .goto 4, 24, 0, .null, []) :: B5_out_23
set_option maxRecDepth 20000 in
theorem vB5_out_24 : am_vl 5 false (some .long) cX5_out B5_out_24 = true := am_vt (tl := []) 1 0 (by decide +kernel) rfl rfl rfl
set_option maxRecDepth 20000 in
theorem vB5_out_23 : am_vl 5 false (some .long) cX5_out B5_out_23 = true := am_vt (tl := B5_out_24) 1 24 (by decide +kernel) rfl rfl vB5_out_24
set_option maxRecDepth 20000 in
theorem vB5_out_0 : am_vl 5 false (some .long) cX5_out B5_out_0 = true := am_vt (tl := B5_out_23) 13 23 (by decide +kernel) rfl rfl vB5_out_23
def B5_count_141 : List am_I := (141, .iconst (-1), 0, 0, .int (-1), []) :: (142, .ireturn, 0, 0, .null, []) :: []
def B5_count_136 : List am_I := (136, .aload_n 0, 0, 0, .null, []) :: (137, .getfield 82, 5, 15, .null, []) :: (140, .ireturn, 0, 0, .null, []) :: B5_count_141
def B5_count_131 : List am_I := (131, .aload_n 0, 0, 0, .null, []) :: (132, .getfield 85, 5, 19, .null, []) :: (135, .ireturn, 0, 0, .null, []) :: B5_count_136
def B5_count_126 : List am_I := (126, .aload_n 0, 0, 0, .null, []) :: (127, .getfield 134, 5, 18, .null, []) :: (130, .ireturn, 0, 0, .null, []) :: B5_count_131
def B5_count_121 : List am_I := (121, .aload_n 0, 0, 0, .null, []) :: (122, .getfield 94, 5, 17, .null, []) :: (125, .ireturn, 0, 0, .null, []) :: B5_count_126
def B5_count_116 : List am_I := (116, .aload_n 0, 0, 0, .null, []) :: (117, .getfield 91, 5, 16, .null, []) :: (120, .ireturn, 0, 0, .null, []) :: B5_count_121
def B5_count_114 : List am_I := (114, .iload_n 2, 0, 0, .null, []) :: (115, .ireturn, 0, 0, .null, []) :: B5_count_116
def B5_count_106 : List am_I := (106, .iadd, 0, 0, .null, []) :: (107, .istore_n 2, 0, 0, .null, []) :: (108, .iinc 3 1, 0, 0, .int 1, []) :: (111, .goto (-31), 80, 0, .null, []) :: B5_count_114
def B5_count_105 : List am_I := (105, .iconst 0, 0, 0, .int 0, []) :: B5_count_106
def B5_count_80 : List am_I := (80, .iload_n 3, 0, 0, .null, []) :: (81, .bipush 8, 0, 0, .int 8, []) :: (83, .aload_n 0, 0, 0, .null, []) :: (84, .getfield 45, 5, 13, .null, []) :: (87, .imul, 0, 0, .null, []) :: (88, .if_icmp .ge 26, 114, 0, .null, []) :: (91, .iload_n 2, 0, 0, .null, []) :: (92, .aload_n 0, 0, 0, .null, []) :: (93, .getfield 39, 5, 10, .null, []) :: (96, .iload_n 3, 0, 0, .null, []) :: (97, .iaload, 0, 0, .null, []) :: (98, .ifCond .eq 7, 105, 0, .null, []) :: (101, .iconst 1, 0, 0, .int 1, []) :: (102, .goto 4, 106, 0, .null, []) :: B5_count_105
def B5_count_76 : List am_I := (76, .iconst 0, 0, 0, .int 0, []) :: (77, .istore_n 2, 0, 0, .null, []) :: (78, .iconst 0, 0, 0, .int 0, []) :: (79, .istore_n 3, 0, 0, .null, []) :: B5_count_80
def B5_count_71 : List am_I := (71, .aload_n 0, 0, 0, .null, []) :: (72, .invokevirtual 127, 121, 0, .ref 5, []) :: (75, .ireturn, 0, 0, .null, []) :: B5_count_76
def B5_count_66 : List am_I := (66, .aload_n 0, 0, 0, .null, []) :: (67, .getfield 100, 5, 12, .null, []) :: (70, .ireturn, 0, 0, .null, []) :: B5_count_71
def B5_count_61 : List am_I := (61, .aload_n 0, 0, 0, .null, []) :: (62, .getfield 45, 5, 13, .null, []) :: (65, .ireturn, 0, 0, .null, []) :: B5_count_66
def B5_count_56 : List am_I := (56, .aload_n 0, 0, 0, .null, []) :: (57, .getfield 19, 5, 3, .null, []) :: (60, .ireturn, 0, 0, .null, []) :: B5_count_61
def B5_count_0 : List am_I := (0, .iload_n 1, 0, 0, .null, []) :: (1, .tableswitch 140 0 9 #[55, 60, 65, 70, 75, 115, 120, 125, 130, 135], 141, 0, .null, [(0, 56), (1, 61), (2, 66), (3, 71), (4, 76), (5, 116), (6, 121), (7, 126), (8, 131), (9, 136)]) :: B5_count_56
set_option maxRecDepth 20000 in
theorem vB5_count_141 : am_vl 5 false (some .int) cX5_count B5_count_141 = true := am_vt (tl := []) 2 0 (by decide +kernel) rfl rfl rfl
set_option maxRecDepth 20000 in
theorem vB5_count_136 : am_vl 5 false (some .int) cX5_count B5_count_136 = true := am_vt (tl := B5_count_141) 3 141 (by decide +kernel) rfl rfl vB5_count_141
set_option maxRecDepth 20000 in
theorem vB5_count_131 : am_vl 5 false (some .int) cX5_count B5_count_131 = true := am_vt (tl := B5_count_136) 3 136 (by decide +kernel) rfl rfl vB5_count_136
set_option maxRecDepth 20000 in
theorem vB5_count_126 : am_vl 5 false (some .int) cX5_count B5_count_126 = true := am_vt (tl := B5_count_131) 3 131 (by decide +kernel) rfl rfl vB5_count_131
set_option maxRecDepth 20000 in
theorem vB5_count_121 : am_vl 5 false (some .int) cX5_count B5_count_121 = true := am_vt (tl := B5_count_126) 3 126 (by decide +kernel) rfl rfl vB5_count_126
set_option maxRecDepth 20000 in
theorem vB5_count_116 : am_vl 5 false (some .int) cX5_count B5_count_116 = true := am_vt (tl := B5_count_121) 3 121 (by decide +kernel) rfl rfl vB5_count_121
set_option maxRecDepth 20000 in
theorem vB5_count_114 : am_vl 5 false (some .int) cX5_count B5_count_114 = true := am_vt (tl := B5_count_116) 2 116 (by decide +kernel) rfl rfl vB5_count_116
set_option maxRecDepth 20000 in
theorem vB5_count_106 : am_vl 5 false (some .int) cX5_count B5_count_106 = true := am_vt (tl := B5_count_114) 4 114 (by decide +kernel) rfl rfl vB5_count_114
set_option maxRecDepth 20000 in
theorem vB5_count_105 : am_vl 5 false (some .int) cX5_count B5_count_105 = true := am_vt (tl := B5_count_106) 1 106 (by decide +kernel) rfl rfl vB5_count_106
set_option maxRecDepth 20000 in
theorem vB5_count_80 : am_vl 5 false (some .int) cX5_count B5_count_80 = true := am_vt (tl := B5_count_105) 14 105 (by decide +kernel) rfl rfl vB5_count_105
set_option maxRecDepth 20000 in
theorem vB5_count_76 : am_vl 5 false (some .int) cX5_count B5_count_76 = true := am_vt (tl := B5_count_80) 4 80 (by decide +kernel) rfl rfl vB5_count_80
set_option maxRecDepth 20000 in
theorem vB5_count_71 : am_vl 5 false (some .int) cX5_count B5_count_71 = true := am_vt (tl := B5_count_76) 3 76 (by decide +kernel) rfl rfl vB5_count_76
set_option maxRecDepth 20000 in
theorem vB5_count_66 : am_vl 5 false (some .int) cX5_count B5_count_66 = true := am_vt (tl := B5_count_71) 3 71 (by decide +kernel) rfl rfl vB5_count_71
set_option maxRecDepth 20000 in
theorem vB5_count_61 : am_vl 5 false (some .int) cX5_count B5_count_61 = true := am_vt (tl := B5_count_66) 3 66 (by decide +kernel) rfl rfl vB5_count_66
set_option maxRecDepth 20000 in
theorem vB5_count_56 : am_vl 5 false (some .int) cX5_count B5_count_56 = true := am_vt (tl := B5_count_61) 3 61 (by decide +kernel) rfl rfl vB5_count_61
set_option maxRecDepth 20000 in
theorem vB5_count_0 : am_vl 5 false (some .int) cX5_count B5_count_0 = true := am_vt (tl := B5_count_56) 2 56 (by decide +kernel) rfl rfl vB5_count_56
end
section
def BL_940 : List am_I := (940, .iconst 1, 0, 0, .int 1, []) :: (941, .ireturn, 1, 0, .null, []) :: []
def BL_934 : List am_I := (934, .iinc 3 5, 0, 0, .int 5, []) :: (937, .goto (-919), 18, 0, .null, []) :: BL_940
def BL_911 : List am_I := (911, .aload_n 1, 0, 0, .null, []) :: (912, .aload_n 0, 0, 0, .null, []) :: (913, .iload_n 3, 0, 0, .null, []) :: (914, .iconst 1, 0, 0, .int 1, []) :: (915, .iadd, 0, 0, .null, []) :: (916, .iaload, 0, 0, .null, []) :: (917, .invokevirtual 124, 85, 1, .ref 4, []) :: (920, .aload_n 2, 0, 0, .null, []) :: (921, .aload_n 0, 0, 0, .null, []) :: (922, .iload_n 3, 0, 0, .null, []) :: (923, .iconst 1, 0, 0, .int 1, []) :: (924, .iadd, 0, 0, .null, []) :: (925, .iaload, 0, 0, .null, []) :: (926, .invokevirtual 127, 149, 1, .ref 5, []) :: (929, .if_icmp .eq 5, 934, 0, .null, []) :: (932, .iconst 0, 0, 0, .int 0, []) :: (933, .ireturn, 1, 0, .null, []) :: BL_934
def BL_887 : List am_I := (887, .aload_n 1, 0, 0, .null, []) :: (888, .aload_n 0, 0, 0, .null, []) :: (889, .iload_n 3, 0, 0, .null, []) :: (890, .iconst 1, 0, 0, .int 1, []) :: (891, .iadd, 0, 0, .null, []) :: (892, .iaload, 0, 0, .null, []) :: (893, .invokevirtual 119, 84, 1, .ref 4, []) :: (896, .aload_n 2, 0, 0, .null, []) :: (897, .aload_n 0, 0, 0, .null, []) :: (898, .iload_n 3, 0, 0, .null, []) :: (899, .iconst 1, 0, 0, .int 1, []) :: (900, .iadd, 0, 0, .null, []) :: (901, .iaload, 0, 0, .null, []) :: (902, .invokevirtual 123, 148, 1, .ref 5, []) :: (905, .lcmp, 0, 0, .null, []) :: (906, .ifCond .eq 28, 934, 0, .null, []) :: (909, .iconst 0, 0, 0, .int 0, []) :: (910, .ireturn, 1, 0, .null, []) :: BL_911
def BL_882 : List am_I := (882, .if_icmp .eq 52, 934, 0, .null, []) :: (885, .iconst 0, 0, 0, .int 0, []) :: (886, .ireturn, 1, 0, .null, []) :: BL_887
def BL_854 : List am_I := (854, .aload_n 1, 0, 0, .null, []) :: (855, .aload_n 0, 0, 0, .null, []) :: (856, .iload_n 3, 0, 0, .null, []) :: (857, .iconst 1, 0, 0, .int 1, []) :: (858, .iadd, 0, 0, .null, []) :: (859, .iaload, 0, 0, .null, []) :: (860, .aload_n 0, 0, 0, .null, []) :: (861, .iload_n 3, 0, 0, .null, []) :: (862, .iconst 2, 0, 0, .int 2, []) :: (863, .iadd, 0, 0, .null, []) :: (864, .iaload, 0, 0, .null, []) :: (865, .invokevirtual 115, 83, 2, .ref 4, []) :: (868, .aload_n 2, 0, 0, .null, []) :: (869, .aload_n 0, 0, 0, .null, []) :: (870, .iload_n 3, 0, 0, .null, []) :: (871, .iconst 1, 0, 0, .int 1, []) :: (872, .iadd, 0, 0, .null, []) :: (873, .iaload, 0, 0, .null, []) :: (874, .aload_n 0, 0, 0, .null, []) :: (875, .iload_n 3, 0, 0, .null, []) :: (876, .iconst 2, 0, 0, .int 2, []) :: (877, .iadd, 0, 0, .null, []) :: (878, .iaload, 0, 0, .null, []) :: (879, .invokevirtual 118, 147, 2, .ref 5, []) :: BL_882
def BL_848 : List am_I := (848, .lcmp, 0, 0, .null, []) :: (849, .ifCond .eq 85, 934, 0, .null, []) :: (852, .iconst 0, 0, 0, .int 0, []) :: (853, .ireturn, 1, 0, .null, []) :: BL_854
def BL_820 : List am_I := (820, .aload_n 1, 0, 0, .null, []) :: (821, .aload_n 0, 0, 0, .null, []) :: (822, .iload_n 3, 0, 0, .null, []) :: (823, .iconst 1, 0, 0, .int 1, []) :: (824, .iadd, 0, 0, .null, []) :: (825, .iaload, 0, 0, .null, []) :: (826, .aload_n 0, 0, 0, .null, []) :: (827, .iload_n 3, 0, 0, .null, []) :: (828, .iconst 2, 0, 0, .int 2, []) :: (829, .iadd, 0, 0, .null, []) :: (830, .iaload, 0, 0, .null, []) :: (831, .invokevirtual 110, 82, 2, .ref 4, []) :: (834, .aload_n 2, 0, 0, .null, []) :: (835, .aload_n 0, 0, 0, .null, []) :: (836, .iload_n 3, 0, 0, .null, []) :: (837, .iconst 1, 0, 0, .int 1, []) :: (838, .iadd, 0, 0, .null, []) :: (839, .iaload, 0, 0, .null, []) :: (840, .aload_n 0, 0, 0, .null, []) :: (841, .iload_n 3, 0, 0, .null, []) :: (842, .iconst 2, 0, 0, .int 2, []) :: (843, .iadd, 0, 0, .null, []) :: (844, .iaload, 0, 0, .null, []) :: (845, .invokevirtual 114, 146, 2, .ref 5, []) :: BL_848
def BL_815 : List am_I := (815, .if_icmp .eq 119, 934, 0, .null, []) :: (818, .iconst 0, 0, 0, .int 0, []) :: (819, .ireturn, 1, 0, .null, []) :: BL_820
def BL_787 : List am_I := (787, .aload_n 1, 0, 0, .null, []) :: (788, .aload_n 0, 0, 0, .null, []) :: (789, .iload_n 3, 0, 0, .null, []) :: (790, .iconst 1, 0, 0, .int 1, []) :: (791, .iadd, 0, 0, .null, []) :: (792, .iaload, 0, 0, .null, []) :: (793, .aload_n 0, 0, 0, .null, []) :: (794, .iload_n 3, 0, 0, .null, []) :: (795, .iconst 2, 0, 0, .int 2, []) :: (796, .iadd, 0, 0, .null, []) :: (797, .iaload, 0, 0, .null, []) :: (798, .invokevirtual 106, 81, 2, .ref 4, []) :: (801, .aload_n 2, 0, 0, .null, []) :: (802, .aload_n 0, 0, 0, .null, []) :: (803, .iload_n 3, 0, 0, .null, []) :: (804, .iconst 1, 0, 0, .int 1, []) :: (805, .iadd, 0, 0, .null, []) :: (806, .iaload, 0, 0, .null, []) :: (807, .aload_n 0, 0, 0, .null, []) :: (808, .iload_n 3, 0, 0, .null, []) :: (809, .iconst 2, 0, 0, .int 2, []) :: (810, .iadd, 0, 0, .null, []) :: (811, .iaload, 0, 0, .null, []) :: (812, .invokevirtual 109, 145, 2, .ref 5, []) :: BL_815
def BL_774 : List am_I := (774, .aload_n 1, 0, 0, .null, []) :: (775, .invokevirtual 102, 80, 0, .ref 4, []) :: (778, .aload_n 2, 0, 0, .null, []) :: (779, .invokevirtual 105, 144, 0, .ref 5, []) :: (782, .if_icmp .eq 152, 934, 0, .null, []) :: (785, .iconst 0, 0, 0, .int 0, []) :: (786, .ireturn, 1, 0, .null, []) :: BL_787
def BL_766 : List am_I := (766, .invokevirtual 101, 143, 1, .ref 5, []) :: (769, .if_icmp .eq 165, 934, 0, .null, []) :: (772, .iconst 0, 0, 0, .int 0, []) :: (773, .ireturn, 1, 0, .null, []) :: BL_774
def BL_765 : List am_I := (765, .iconst 0, 0, 0, .int 0, []) :: BL_766
def BL_749 : List am_I := (749, .invokevirtual 97, 79, 1, .ref 4, []) :: (752, .aload_n 2, 0, 0, .null, []) :: (753, .aload_n 0, 0, 0, .null, []) :: (754, .iload_n 3, 0, 0, .null, []) :: (755, .iconst 1, 0, 0, .int 1, []) :: (756, .iadd, 0, 0, .null, []) :: (757, .iaload, 0, 0, .null, []) :: (758, .ifCond .eq 7, 765, 0, .null, []) :: (761, .iconst 1, 0, 0, .int 1, []) :: (762, .goto 4, 766, 0, .null, []) :: BL_765
def BL_748 : List am_I := (748, .iconst 0, 0, 0, .int 0, []) :: BL_749
def BL_735 : List am_I := (735, .aload_n 1, 0, 0, .null, []) :: (736, .aload_n 0, 0, 0, .null, []) :: (737, .iload_n 3, 0, 0, .null, []) :: (738, .iconst 1, 0, 0, .int 1, []) :: (739, .iadd, 0, 0, .null, []) :: (740, .iaload, 0, 0, .null, []) :: (741, .ifCond .eq 7, 748, 0, .null, []) :: (744, .iconst 1, 0, 0, .int 1, []) :: (745, .goto 4, 749, 0, .null, []) :: BL_748
def BL_712 : List am_I := (712, .aload_n 1, 0, 0, .null, []) :: (713, .aload_n 0, 0, 0, .null, []) :: (714, .iload_n 3, 0, 0, .null, []) :: (715, .iconst 1, 0, 0, .int 1, []) :: (716, .iadd, 0, 0, .null, []) :: (717, .iaload, 0, 0, .null, []) :: (718, .invokevirtual 93, 78, 1, .ref 4, []) :: (721, .aload_n 2, 0, 0, .null, []) :: (722, .aload_n 0, 0, 0, .null, []) :: (723, .iload_n 3, 0, 0, .null, []) :: (724, .iconst 1, 0, 0, .int 1, []) :: (725, .iadd, 0, 0, .null, []) :: (726, .iaload, 0, 0, .null, []) :: (727, .invokevirtual 96, 141, 1, .ref 5, []) :: (730, .if_icmp .eq 204, 934, 0, .null, []) :: (733, .iconst 0, 0, 0, .int 0, []) :: (734, .ireturn, 1, 0, .null, []) :: BL_735
def BL_707 : List am_I := (707, .if_icmp .eq 227, 934, 0, .null, []) :: (710, .iconst 0, 0, 0, .int 0, []) :: (711, .ireturn, 1, 0, .null, []) :: BL_712
def BL_679 : List am_I := (679, .aload_n 1, 0, 0, .null, []) :: (680, .aload_n 0, 0, 0, .null, []) :: (681, .iload_n 3, 0, 0, .null, []) :: (682, .iconst 1, 0, 0, .int 1, []) :: (683, .iadd, 0, 0, .null, []) :: (684, .iaload, 0, 0, .null, []) :: (685, .aload_n 0, 0, 0, .null, []) :: (686, .iload_n 3, 0, 0, .null, []) :: (687, .iconst 2, 0, 0, .int 2, []) :: (688, .iadd, 0, 0, .null, []) :: (689, .iaload, 0, 0, .null, []) :: (690, .invokevirtual 89, 77, 2, .ref 4, []) :: (693, .aload_n 2, 0, 0, .null, []) :: (694, .aload_n 0, 0, 0, .null, []) :: (695, .iload_n 3, 0, 0, .null, []) :: (696, .iconst 1, 0, 0, .int 1, []) :: (697, .iadd, 0, 0, .null, []) :: (698, .iaload, 0, 0, .null, []) :: (699, .aload_n 0, 0, 0, .null, []) :: (700, .iload_n 3, 0, 0, .null, []) :: (701, .iconst 2, 0, 0, .int 2, []) :: (702, .iadd, 0, 0, .null, []) :: (703, .iaload, 0, 0, .null, []) :: (704, .invokevirtual 92, 140, 2, .ref 5, []) :: BL_707
def BL_674 : List am_I := (674, .if_icmp .eq 260, 934, 0, .null, []) :: (677, .iconst 0, 0, 0, .int 0, []) :: (678, .ireturn, 1, 0, .null, []) :: BL_679
def BL_646 : List am_I := (646, .aload_n 1, 0, 0, .null, []) :: (647, .aload_n 0, 0, 0, .null, []) :: (648, .iload_n 3, 0, 0, .null, []) :: (649, .iconst 1, 0, 0, .int 1, []) :: (650, .iadd, 0, 0, .null, []) :: (651, .iaload, 0, 0, .null, []) :: (652, .aload_n 0, 0, 0, .null, []) :: (653, .iload_n 3, 0, 0, .null, []) :: (654, .iconst 2, 0, 0, .int 2, []) :: (655, .iadd, 0, 0, .null, []) :: (656, .iaload, 0, 0, .null, []) :: (657, .invokevirtual 85, 76, 2, .ref 4, []) :: (660, .aload_n 2, 0, 0, .null, []) :: (661, .aload_n 0, 0, 0, .null, []) :: (662, .iload_n 3, 0, 0, .null, []) :: (663, .iconst 1, 0, 0, .int 1, []) :: (664, .iadd, 0, 0, .null, []) :: (665, .iaload, 0, 0, .null, []) :: (666, .aload_n 0, 0, 0, .null, []) :: (667, .iload_n 3, 0, 0, .null, []) :: (668, .iconst 2, 0, 0, .int 2, []) :: (669, .iadd, 0, 0, .null, []) :: (670, .iaload, 0, 0, .null, []) :: (671, .invokevirtual 88, 139, 2, .ref 5, []) :: BL_674
def BL_641 : List am_I := (641, .if_icmp .eq 293, 934, 0, .null, []) :: (644, .iconst 0, 0, 0, .int 0, []) :: (645, .ireturn, 1, 0, .null, []) :: BL_646
def BL_613 : List am_I := (613, .aload_n 1, 0, 0, .null, []) :: (614, .aload_n 0, 0, 0, .null, []) :: (615, .iload_n 3, 0, 0, .null, []) :: (616, .iconst 1, 0, 0, .int 1, []) :: (617, .iadd, 0, 0, .null, []) :: (618, .iaload, 0, 0, .null, []) :: (619, .aload_n 0, 0, 0, .null, []) :: (620, .iload_n 3, 0, 0, .null, []) :: (621, .iconst 2, 0, 0, .int 2, []) :: (622, .iadd, 0, 0, .null, []) :: (623, .iaload, 0, 0, .null, []) :: (624, .invokevirtual 81, 75, 2, .ref 4, []) :: (627, .aload_n 2, 0, 0, .null, []) :: (628, .aload_n 0, 0, 0, .null, []) :: (629, .iload_n 3, 0, 0, .null, []) :: (630, .iconst 1, 0, 0, .int 1, []) :: (631, .iadd, 0, 0, .null, []) :: (632, .iaload, 0, 0, .null, []) :: (633, .aload_n 0, 0, 0, .null, []) :: (634, .iload_n 3, 0, 0, .null, []) :: (635, .iconst 2, 0, 0, .int 2, []) :: (636, .iadd, 0, 0, .null, []) :: (637, .iaload, 0, 0, .null, []) :: (638, .invokevirtual 84, 138, 2, .ref 5, []) :: BL_641
def BL_608 : List am_I := (608, .if_icmp .eq 326, 934, 0, .null, []) :: (611, .iconst 0, 0, 0, .int 0, []) :: (612, .ireturn, 1, 0, .null, []) :: BL_613
def BL_580 : List am_I := (580, .aload_n 1, 0, 0, .null, []) :: (581, .aload_n 0, 0, 0, .null, []) :: (582, .iload_n 3, 0, 0, .null, []) :: (583, .iconst 1, 0, 0, .int 1, []) :: (584, .iadd, 0, 0, .null, []) :: (585, .iaload, 0, 0, .null, []) :: (586, .aload_n 0, 0, 0, .null, []) :: (587, .iload_n 3, 0, 0, .null, []) :: (588, .iconst 2, 0, 0, .int 2, []) :: (589, .iadd, 0, 0, .null, []) :: (590, .iaload, 0, 0, .null, []) :: (591, .invokevirtual 77, 74, 2, .ref 4, []) :: (594, .aload_n 2, 0, 0, .null, []) :: (595, .aload_n 0, 0, 0, .null, []) :: (596, .iload_n 3, 0, 0, .null, []) :: (597, .iconst 1, 0, 0, .int 1, []) :: (598, .iadd, 0, 0, .null, []) :: (599, .iaload, 0, 0, .null, []) :: (600, .aload_n 0, 0, 0, .null, []) :: (601, .iload_n 3, 0, 0, .null, []) :: (602, .iconst 2, 0, 0, .int 2, []) :: (603, .iadd, 0, 0, .null, []) :: (604, .iaload, 0, 0, .null, []) :: (605, .invokevirtual 80, 137, 2, .ref 5, []) :: BL_608
def BL_557 : List am_I := (557, .aload_n 1, 0, 0, .null, []) :: (558, .aload_n 0, 0, 0, .null, []) :: (559, .iload_n 3, 0, 0, .null, []) :: (560, .iconst 1, 0, 0, .int 1, []) :: (561, .iadd, 0, 0, .null, []) :: (562, .iaload, 0, 0, .null, []) :: (563, .invokevirtual 73, 73, 1, .ref 4, []) :: (566, .aload_n 2, 0, 0, .null, []) :: (567, .aload_n 0, 0, 0, .null, []) :: (568, .iload_n 3, 0, 0, .null, []) :: (569, .iconst 1, 0, 0, .int 1, []) :: (570, .iadd, 0, 0, .null, []) :: (571, .iaload, 0, 0, .null, []) :: (572, .invokevirtual 76, 136, 1, .ref 5, []) :: (575, .if_icmp .eq 359, 934, 0, .null, []) :: (578, .iconst 0, 0, 0, .int 0, []) :: (579, .ireturn, 1, 0, .null, []) :: BL_580
def BL_534 : List am_I := (534, .aload_n 1, 0, 0, .null, []) :: (535, .aload_n 0, 0, 0, .null, []) :: (536, .iload_n 3, 0, 0, .null, []) :: (537, .iconst 1, 0, 0, .int 1, []) :: (538, .iadd, 0, 0, .null, []) :: (539, .iaload, 0, 0, .null, []) :: (540, .invokevirtual 69, 72, 1, .ref 4, []) :: (543, .aload_n 2, 0, 0, .null, []) :: (544, .aload_n 0, 0, 0, .null, []) :: (545, .iload_n 3, 0, 0, .null, []) :: (546, .iconst 1, 0, 0, .int 1, []) :: (547, .iadd, 0, 0, .null, []) :: (548, .iaload, 0, 0, .null, []) :: (549, .invokevirtual 72, 135, 1, .ref 5, []) :: (552, .if_icmp .eq 382, 934, 0, .null, []) :: (555, .iconst 0, 0, 0, .int 0, []) :: (556, .ireturn, 1, 0, .null, []) :: BL_557
def BL_521 : List am_I := (521, .aload_n 1, 0, 0, .null, []) :: (522, .invokevirtual 65, 71, 0, .ref 4, []) :: (525, .aload_n 2, 0, 0, .null, []) :: (526, .invokevirtual 68, 134, 0, .ref 5, []) :: (529, .if_icmp .eq 405, 934, 0, .null, []) :: (532, .iconst 0, 0, 0, .int 0, []) :: (533, .ireturn, 1, 0, .null, []) :: BL_534
def BL_508 : List am_I := (508, .aload_n 1, 0, 0, .null, []) :: (509, .invokevirtual 61, 70, 0, .ref 4, []) :: (512, .aload_n 2, 0, 0, .null, []) :: (513, .invokevirtual 64, 133, 0, .ref 5, []) :: (516, .if_icmp .eq 418, 934, 0, .null, []) :: (519, .iconst 0, 0, 0, .int 0, []) :: (520, .ireturn, 1, 0, .null, []) :: BL_521
def BL_495 : List am_I := (495, .aload_n 1, 0, 0, .null, []) :: (496, .invokevirtual 56, 69, 0, .ref 4, []) :: (499, .aload_n 2, 0, 0, .null, []) :: (500, .invokevirtual 60, 132, 0, .ref 5, []) :: (503, .if_icmp .eq 431, 934, 0, .null, []) :: (506, .iconst 0, 0, 0, .int 0, []) :: (507, .ireturn, 1, 0, .null, []) :: BL_508
def BL_490 : List am_I := (490, .if_icmp .eq 444, 934, 0, .null, []) :: (493, .iconst 0, 0, 0, .int 0, []) :: (494, .ireturn, 1, 0, .null, []) :: BL_495
def BL_462 : List am_I := (462, .aload_n 1, 0, 0, .null, []) :: (463, .aload_n 0, 0, 0, .null, []) :: (464, .iload_n 3, 0, 0, .null, []) :: (465, .iconst 1, 0, 0, .int 1, []) :: (466, .iadd, 0, 0, .null, []) :: (467, .iaload, 0, 0, .null, []) :: (468, .aload_n 0, 0, 0, .null, []) :: (469, .iload_n 3, 0, 0, .null, []) :: (470, .iconst 2, 0, 0, .int 2, []) :: (471, .iadd, 0, 0, .null, []) :: (472, .iaload, 0, 0, .null, []) :: (473, .invokevirtual 52, 68, 2, .ref 4, []) :: (476, .aload_n 2, 0, 0, .null, []) :: (477, .aload_n 0, 0, 0, .null, []) :: (478, .iload_n 3, 0, 0, .null, []) :: (479, .iconst 1, 0, 0, .int 1, []) :: (480, .iadd, 0, 0, .null, []) :: (481, .iaload, 0, 0, .null, []) :: (482, .aload_n 0, 0, 0, .null, []) :: (483, .iload_n 3, 0, 0, .null, []) :: (484, .iconst 2, 0, 0, .int 2, []) :: (485, .iadd, 0, 0, .null, []) :: (486, .iaload, 0, 0, .null, []) :: (487, .invokevirtual 55, 131, 2, .ref 5, []) :: BL_490
def BL_457 : List am_I := (457, .if_icmp .eq 477, 934, 0, .null, []) :: (460, .iconst 0, 0, 0, .int 0, []) :: (461, .ireturn, 1, 0, .null, []) :: BL_462
def BL_429 : List am_I := (429, .aload_n 1, 0, 0, .null, []) :: (430, .aload_n 0, 0, 0, .null, []) :: (431, .iload_n 3, 0, 0, .null, []) :: (432, .iconst 1, 0, 0, .int 1, []) :: (433, .iadd, 0, 0, .null, []) :: (434, .iaload, 0, 0, .null, []) :: (435, .aload_n 0, 0, 0, .null, []) :: (436, .iload_n 3, 0, 0, .null, []) :: (437, .iconst 2, 0, 0, .int 2, []) :: (438, .iadd, 0, 0, .null, []) :: (439, .iaload, 0, 0, .null, []) :: (440, .invokevirtual 48, 67, 2, .ref 4, []) :: (443, .aload_n 2, 0, 0, .null, []) :: (444, .aload_n 0, 0, 0, .null, []) :: (445, .iload_n 3, 0, 0, .null, []) :: (446, .iconst 1, 0, 0, .int 1, []) :: (447, .iadd, 0, 0, .null, []) :: (448, .iaload, 0, 0, .null, []) :: (449, .aload_n 0, 0, 0, .null, []) :: (450, .iload_n 3, 0, 0, .null, []) :: (451, .iconst 2, 0, 0, .int 2, []) :: (452, .iadd, 0, 0, .null, []) :: (453, .iaload, 0, 0, .null, []) :: (454, .invokevirtual 51, 130, 2, .ref 5, []) :: BL_457
def BL_405 : List am_I := (405, .iaload, 0, 0, .null, []) :: (406, .i2l, 0, 0, .null, []) :: (407, .bipush 32, 0, 0, .int 32, []) :: (409, .lshl, 0, 0, .null, []) :: (410, .aload_n 0, 0, 0, .null, []) :: (411, .iload_n 3, 0, 0, .null, []) :: (412, .iconst 2, 0, 0, .int 2, []) :: (413, .iadd, 0, 0, .null, []) :: (414, .iaload, 0, 0, .null, []) :: (415, .i2l, 0, 0, .null, []) :: (416, .ldc2_w 41, 0, 0, .long 4294967295, []) :: (419, .land, 0, 0, .null, []) :: (420, .lor, 0, 0, .null, []) :: (421, .invokevirtual 47, 127, 1, .ref 5, []) :: (424, .if_icmp .eq 510, 934, 0, .null, []) :: (427, .iconst 0, 0, 0, .int 0, []) :: (428, .ireturn, 1, 0, .null, []) :: BL_429
def BL_376 : List am_I := (376, .aload_n 1, 0, 0, .null, []) :: (377, .aload_n 0, 0, 0, .null, []) :: (378, .iload_n 3, 0, 0, .null, []) :: (379, .iconst 1, 0, 0, .int 1, []) :: (380, .iadd, 0, 0, .null, []) :: (381, .iaload, 0, 0, .null, []) :: (382, .i2l, 0, 0, .null, []) :: (383, .bipush 32, 0, 0, .int 32, []) :: (385, .lshl, 0, 0, .null, []) :: (386, .aload_n 0, 0, 0, .null, []) :: (387, .iload_n 3, 0, 0, .null, []) :: (388, .iconst 2, 0, 0, .int 2, []) :: (389, .iadd, 0, 0, .null, []) :: (390, .iaload, 0, 0, .null, []) :: (391, .i2l, 0, 0, .null, []) :: (392, .ldc2_w 41, 0, 0, .long 4294967295, []) :: (395, .land, 0, 0, .null, []) :: (396, .lor, 0, 0, .null, []) :: (397, .invokevirtual 43, 66, 1, .ref 4, []) :: (400, .aload_n 2, 0, 0, .null, []) :: (401, .aload_n 0, 0, 0, .null, []) :: (402, .iload_n 3, 0, 0, .null, []) :: (403, .iconst 1, 0, 0, .int 1, []) :: (404, .iadd, 0, 0, .null, []) :: BL_405
def BL_371 : List am_I := (371, .if_icmp .eq 563, 934, 0, .null, []) :: (374, .iconst 0, 0, 0, .int 0, []) :: (375, .ireturn, 1, 0, .null, []) :: BL_376
def BL_343 : List am_I := (343, .aload_n 1, 0, 0, .null, []) :: (344, .aload_n 0, 0, 0, .null, []) :: (345, .iload_n 3, 0, 0, .null, []) :: (346, .iconst 1, 0, 0, .int 1, []) :: (347, .iadd, 0, 0, .null, []) :: (348, .iaload, 0, 0, .null, []) :: (349, .aload_n 0, 0, 0, .null, []) :: (350, .iload_n 3, 0, 0, .null, []) :: (351, .iconst 2, 0, 0, .int 2, []) :: (352, .iadd, 0, 0, .null, []) :: (353, .iaload, 0, 0, .null, []) :: (354, .invokevirtual 37, 65, 2, .ref 4, []) :: (357, .aload_n 2, 0, 0, .null, []) :: (358, .aload_n 0, 0, 0, .null, []) :: (359, .iload_n 3, 0, 0, .null, []) :: (360, .iconst 1, 0, 0, .int 1, []) :: (361, .iadd, 0, 0, .null, []) :: (362, .iaload, 0, 0, .null, []) :: (363, .aload_n 0, 0, 0, .null, []) :: (364, .iload_n 3, 0, 0, .null, []) :: (365, .iconst 2, 0, 0, .int 2, []) :: (366, .iadd, 0, 0, .null, []) :: (367, .iaload, 0, 0, .null, []) :: (368, .invokevirtual 40, 115, 2, .ref 5, []) :: BL_371
def BL_320 : List am_I := (320, .aload_n 1, 0, 0, .null, []) :: (321, .aload_n 0, 0, 0, .null, []) :: (322, .iload_n 3, 0, 0, .null, []) :: (323, .iconst 1, 0, 0, .int 1, []) :: (324, .iadd, 0, 0, .null, []) :: (325, .iaload, 0, 0, .null, []) :: (326, .invokevirtual 33, 64, 1, .ref 4, []) :: (329, .aload_n 2, 0, 0, .null, []) :: (330, .aload_n 0, 0, 0, .null, []) :: (331, .iload_n 3, 0, 0, .null, []) :: (332, .iconst 1, 0, 0, .int 1, []) :: (333, .iadd, 0, 0, .null, []) :: (334, .iaload, 0, 0, .null, []) :: (335, .invokevirtual 36, 114, 1, .ref 5, []) :: (338, .if_icmp .eq 596, 934, 0, .null, []) :: (341, .iconst 0, 0, 0, .int 0, []) :: (342, .ireturn, 1, 0, .null, []) :: BL_343
def BL_315 : List am_I := (315, .if_icmp .eq 619, 934, 0, .null, []) :: (318, .iconst 0, 0, 0, .int 0, []) :: (319, .ireturn, 1, 0, .null, []) :: BL_320
def BL_287 : List am_I := (287, .aload_n 1, 0, 0, .null, []) :: (288, .aload_n 0, 0, 0, .null, []) :: (289, .iload_n 3, 0, 0, .null, []) :: (290, .iconst 1, 0, 0, .int 1, []) :: (291, .iadd, 0, 0, .null, []) :: (292, .iaload, 0, 0, .null, []) :: (293, .aload_n 0, 0, 0, .null, []) :: (294, .iload_n 3, 0, 0, .null, []) :: (295, .iconst 2, 0, 0, .int 2, []) :: (296, .iadd, 0, 0, .null, []) :: (297, .iaload, 0, 0, .null, []) :: (298, .invokevirtual 28, 63, 2, .ref 4, []) :: (301, .aload_n 2, 0, 0, .null, []) :: (302, .aload_n 0, 0, 0, .null, []) :: (303, .iload_n 3, 0, 0, .null, []) :: (304, .iconst 1, 0, 0, .int 1, []) :: (305, .iadd, 0, 0, .null, []) :: (306, .iaload, 0, 0, .null, []) :: (307, .aload_n 0, 0, 0, .null, []) :: (308, .iload_n 3, 0, 0, .null, []) :: (309, .iconst 2, 0, 0, .int 2, []) :: (310, .iadd, 0, 0, .null, []) :: (311, .iaload, 0, 0, .null, []) :: (312, .invokevirtual 32, 113, 2, .ref 5, []) :: BL_315
def BL_264 : List am_I := (264, .aload_n 1, 0, 0, .null, []) :: (265, .aload_n 0, 0, 0, .null, []) :: (266, .iload_n 3, 0, 0, .null, []) :: (267, .iconst 1, 0, 0, .int 1, []) :: (268, .iadd, 0, 0, .null, []) :: (269, .iaload, 0, 0, .null, []) :: (270, .invokevirtual 23, 62, 1, .ref 4, []) :: (273, .aload_n 2, 0, 0, .null, []) :: (274, .aload_n 0, 0, 0, .null, []) :: (275, .iload_n 3, 0, 0, .null, []) :: (276, .iconst 1, 0, 0, .int 1, []) :: (277, .iadd, 0, 0, .null, []) :: (278, .iaload, 0, 0, .null, []) :: (279, .invokevirtual 27, 112, 1, .ref 5, []) :: (282, .if_icmp .eq 652, 934, 0, .null, []) :: (285, .iconst 0, 0, 0, .int 0, []) :: (286, .ireturn, 1, 0, .null, []) :: BL_287
def BL_247 : List am_I := (247, .iload_n 3, 0, 0, .null, []) :: (248, .iconst 2, 0, 0, .int 2, []) :: (249, .iadd, 0, 0, .null, []) :: (250, .iaload, 0, 0, .null, []) :: (251, .aload_n 0, 0, 0, .null, []) :: (252, .iload_n 3, 0, 0, .null, []) :: (253, .iconst 3, 0, 0, .int 3, []) :: (254, .iadd, 0, 0, .null, []) :: (255, .iaload, 0, 0, .null, []) :: (256, .invokevirtual 22, 111, 3, .ref 5, []) :: (259, .if_icmp .eq 675, 934, 0, .null, []) :: (262, .iconst 0, 0, 0, .int 0, []) :: (263, .ireturn, 1, 0, .null, []) :: BL_264
def BL_221 : List am_I := (221, .aload_n 1, 0, 0, .null, []) :: (222, .aload_n 0, 0, 0, .null, []) :: (223, .iload_n 3, 0, 0, .null, []) :: (224, .iconst 1, 0, 0, .int 1, []) :: (225, .iadd, 0, 0, .null, []) :: (226, .iaload, 0, 0, .null, []) :: (227, .aload_n 0, 0, 0, .null, []) :: (228, .iload_n 3, 0, 0, .null, []) :: (229, .iconst 2, 0, 0, .int 2, []) :: (230, .iadd, 0, 0, .null, []) :: (231, .iaload, 0, 0, .null, []) :: (232, .aload_n 0, 0, 0, .null, []) :: (233, .iload_n 3, 0, 0, .null, []) :: (234, .iconst 3, 0, 0, .int 3, []) :: (235, .iadd, 0, 0, .null, []) :: (236, .iaload, 0, 0, .null, []) :: (237, .invokevirtual 18, 61, 3, .ref 4, []) :: (240, .aload_n 2, 0, 0, .null, []) :: (241, .aload_n 0, 0, 0, .null, []) :: (242, .iload_n 3, 0, 0, .null, []) :: (243, .iconst 1, 0, 0, .int 1, []) :: (244, .iadd, 0, 0, .null, []) :: (245, .iaload, 0, 0, .null, []) :: (246, .aload_n 0, 0, 0, .null, []) :: BL_247
def BL_198 : List am_I := (198, .aload_n 0, 0, 0, .null, []) :: (199, .iload_n 3, 0, 0, .null, []) :: (200, .iconst 2, 0, 0, .int 2, []) :: (201, .iadd, 0, 0, .null, []) :: (202, .iaload, 0, 0, .null, []) :: (203, .aload_n 0, 0, 0, .null, []) :: (204, .iload_n 3, 0, 0, .null, []) :: (205, .iconst 3, 0, 0, .int 3, []) :: (206, .iadd, 0, 0, .null, []) :: (207, .iaload, 0, 0, .null, []) :: (208, .aload_n 0, 0, 0, .null, []) :: (209, .iload_n 3, 0, 0, .null, []) :: (210, .iconst 4, 0, 0, .int 4, []) :: (211, .iadd, 0, 0, .null, []) :: (212, .iaload, 0, 0, .null, []) :: (213, .invokevirtual 17, 110, 4, .ref 5, []) :: (216, .if_icmp .eq 718, 934, 0, .null, []) :: (219, .iconst 0, 0, 0, .int 0, []) :: (220, .ireturn, 1, 0, .null, []) :: BL_221
def BL_197 : List am_I := (197, .iconst 0, 0, 0, .int 0, []) :: BL_198
def BL_194 : List am_I := (194, .goto 4, 198, 0, .null, []) :: BL_197
def BL_166 : List am_I := (166, .aload_n 0, 0, 0, .null, []) :: (167, .iload_n 3, 0, 0, .null, []) :: (168, .iconst 2, 0, 0, .int 2, []) :: (169, .iadd, 0, 0, .null, []) :: (170, .iaload, 0, 0, .null, []) :: (171, .aload_n 0, 0, 0, .null, []) :: (172, .iload_n 3, 0, 0, .null, []) :: (173, .iconst 3, 0, 0, .int 3, []) :: (174, .iadd, 0, 0, .null, []) :: (175, .iaload, 0, 0, .null, []) :: (176, .aload_n 0, 0, 0, .null, []) :: (177, .iload_n 3, 0, 0, .null, []) :: (178, .iconst 4, 0, 0, .int 4, []) :: (179, .iadd, 0, 0, .null, []) :: (180, .iaload, 0, 0, .null, []) :: (181, .invokevirtual 13, 60, 4, .ref 4, []) :: (184, .aload_n 2, 0, 0, .null, []) :: (185, .aload_n 0, 0, 0, .null, []) :: (186, .iload_n 3, 0, 0, .null, []) :: (187, .iconst 1, 0, 0, .int 1, []) :: (188, .iadd, 0, 0, .null, []) :: (189, .iaload, 0, 0, .null, []) :: (190, .ifCond .eq 7, 197, 0, .null, []) :: (193, .iconst 1, 0, 0, .int 1, []) :: BL_194
def BL_165 : List am_I := (165, .iconst 0, 0, 0, .int 0, []) :: BL_166
def BL_152 : List am_I := (152, .aload_n 1, 0, 0, .null, []) :: (153, .aload_n 0, 0, 0, .null, []) :: (154, .iload_n 3, 0, 0, .null, []) :: (155, .iconst 1, 0, 0, .int 1, []) :: (156, .iadd, 0, 0, .null, []) :: (157, .iaload, 0, 0, .null, []) :: (158, .ifCond .eq 7, 165, 0, .null, []) :: (161, .iconst 1, 0, 0, .int 1, []) :: (162, .goto 4, 166, 0, .null, []) :: BL_165
def BL_18 : List am_I := (18, .iload_n 3, 0, 0, .null, []) :: (19, .aload_n 0, 0, 0, .null, []) :: (20, .arraylength, 0, 0, .null, []) :: (21, .iconst 5, 0, 0, .int 5, []) :: (22, .isub, 0, 0, .null, []) :: (23, .if_icmp .gt 917, 940, 0, .null, []) :: (26, .aload_n 0, 0, 0, .null, []) :: (27, .iload_n 3, 0, 0, .null, []) :: (28, .iaload, 0, 0, .null, []) :: (29, .bipush 31, 0, 0, .int 31, []) :: (31, .iand, 0, 0, .null, []) :: (32, .tableswitch 902 0 25 #[120, 189, 232, 255, 288, 311, 344, 397, 430, 463, 476, 489, 502, 525, 548, 581, 614, 647, 680, 703, 742, 755, 788, 822, 855, 879], 934, 0, .null, [(0, 152), (1, 221), (2, 264), (3, 287), (4, 320), (5, 343), (6, 376), (7, 429), (8, 462), (9, 495), (10, 508), (11, 521), (12, 534), (13, 557), (14, 580), (15, 613), (16, 646), (17, 679), (18, 712), (19, 735), (20, 774), (21, 787), (22, 820), (23, 854), (24, 887), (25, 911)]) :: BL_152
def BL_0 : List am_I := (0, .new 7, 4, 0, .null, []) :: (3, .dup, 0, 0, .null, []) :: (4, .invokespecial 9, 59, 0, .int 0, []) :: (7, .astore_n 1, 0, 0, .null, []) :: (8, .new 10, 5, 0, .null, []) :: (11, .dup, 0, 0, .null, []) :: (12, .invokespecial 12, 105, 0, .int 0, []) :: (15, .astore_n 2, 0, 0, .null, []) :: (16, .iconst 0, 0, 0, .int 0, []) :: (17, .istore_n 3, 0, 0, .null, []) :: BL_18
set_option maxRecDepth 20000 in
theorem vBL_940 : am_vl 6 false ret code BL_940 = true := am_vt (tl := []) 2 0 (by decide +kernel) rfl rfl rfl
set_option maxRecDepth 20000 in
theorem vBL_934 : am_vl 6 false ret code BL_934 = true := am_vt (tl := BL_940) 2 940 (by decide +kernel) rfl rfl vBL_940
set_option maxRecDepth 20000 in
theorem vBL_911 : am_vl 6 false ret code BL_911 = true := am_vt (tl := BL_934) 17 934 (by decide +kernel) rfl rfl vBL_934
set_option maxRecDepth 20000 in
theorem vBL_887 : am_vl 6 false ret code BL_887 = true := am_vt (tl := BL_911) 18 911 (by decide +kernel) rfl rfl vBL_911
set_option maxRecDepth 20000 in
theorem vBL_882 : am_vl 6 false ret code BL_882 = true := am_vt (tl := BL_887) 3 887 (by decide +kernel) rfl rfl vBL_887
set_option maxRecDepth 20000 in
theorem vBL_854 : am_vl 6 false ret code BL_854 = true := am_vt (tl := BL_882) 24 882 (by decide +kernel) rfl rfl vBL_882
set_option maxRecDepth 20000 in
theorem vBL_848 : am_vl 6 false ret code BL_848 = true := am_vt (tl := BL_854) 4 854 (by decide +kernel) rfl rfl vBL_854
set_option maxRecDepth 20000 in
theorem vBL_820 : am_vl 6 false ret code BL_820 = true := am_vt (tl := BL_848) 24 848 (by decide +kernel) rfl rfl vBL_848
set_option maxRecDepth 20000 in
theorem vBL_815 : am_vl 6 false ret code BL_815 = true := am_vt (tl := BL_820) 3 820 (by decide +kernel) rfl rfl vBL_820
set_option maxRecDepth 20000 in
theorem vBL_787 : am_vl 6 false ret code BL_787 = true := am_vt (tl := BL_815) 24 815 (by decide +kernel) rfl rfl vBL_815
set_option maxRecDepth 20000 in
theorem vBL_774 : am_vl 6 false ret code BL_774 = true := am_vt (tl := BL_787) 7 787 (by decide +kernel) rfl rfl vBL_787
set_option maxRecDepth 20000 in
theorem vBL_766 : am_vl 6 false ret code BL_766 = true := am_vt (tl := BL_774) 4 774 (by decide +kernel) rfl rfl vBL_774
set_option maxRecDepth 20000 in
theorem vBL_765 : am_vl 6 false ret code BL_765 = true := am_vt (tl := BL_766) 1 766 (by decide +kernel) rfl rfl vBL_766
set_option maxRecDepth 20000 in
theorem vBL_749 : am_vl 6 false ret code BL_749 = true := am_vt (tl := BL_765) 10 765 (by decide +kernel) rfl rfl vBL_765
set_option maxRecDepth 20000 in
theorem vBL_748 : am_vl 6 false ret code BL_748 = true := am_vt (tl := BL_749) 1 749 (by decide +kernel) rfl rfl vBL_749
set_option maxRecDepth 20000 in
theorem vBL_735 : am_vl 6 false ret code BL_735 = true := am_vt (tl := BL_748) 9 748 (by decide +kernel) rfl rfl vBL_748
set_option maxRecDepth 20000 in
theorem vBL_712 : am_vl 6 false ret code BL_712 = true := am_vt (tl := BL_735) 17 735 (by decide +kernel) rfl rfl vBL_735
set_option maxRecDepth 20000 in
theorem vBL_707 : am_vl 6 false ret code BL_707 = true := am_vt (tl := BL_712) 3 712 (by decide +kernel) rfl rfl vBL_712
set_option maxRecDepth 20000 in
theorem vBL_679 : am_vl 6 false ret code BL_679 = true := am_vt (tl := BL_707) 24 707 (by decide +kernel) rfl rfl vBL_707
set_option maxRecDepth 20000 in
theorem vBL_674 : am_vl 6 false ret code BL_674 = true := am_vt (tl := BL_679) 3 679 (by decide +kernel) rfl rfl vBL_679
set_option maxRecDepth 20000 in
theorem vBL_646 : am_vl 6 false ret code BL_646 = true := am_vt (tl := BL_674) 24 674 (by decide +kernel) rfl rfl vBL_674
set_option maxRecDepth 20000 in
theorem vBL_641 : am_vl 6 false ret code BL_641 = true := am_vt (tl := BL_646) 3 646 (by decide +kernel) rfl rfl vBL_646
set_option maxRecDepth 20000 in
theorem vBL_613 : am_vl 6 false ret code BL_613 = true := am_vt (tl := BL_641) 24 641 (by decide +kernel) rfl rfl vBL_641
set_option maxRecDepth 20000 in
theorem vBL_608 : am_vl 6 false ret code BL_608 = true := am_vt (tl := BL_613) 3 613 (by decide +kernel) rfl rfl vBL_613
set_option maxRecDepth 20000 in
theorem vBL_580 : am_vl 6 false ret code BL_580 = true := am_vt (tl := BL_608) 24 608 (by decide +kernel) rfl rfl vBL_608
set_option maxRecDepth 20000 in
theorem vBL_557 : am_vl 6 false ret code BL_557 = true := am_vt (tl := BL_580) 17 580 (by decide +kernel) rfl rfl vBL_580
set_option maxRecDepth 20000 in
theorem vBL_534 : am_vl 6 false ret code BL_534 = true := am_vt (tl := BL_557) 17 557 (by decide +kernel) rfl rfl vBL_557
set_option maxRecDepth 20000 in
theorem vBL_521 : am_vl 6 false ret code BL_521 = true := am_vt (tl := BL_534) 7 534 (by decide +kernel) rfl rfl vBL_534
set_option maxRecDepth 20000 in
theorem vBL_508 : am_vl 6 false ret code BL_508 = true := am_vt (tl := BL_521) 7 521 (by decide +kernel) rfl rfl vBL_521
set_option maxRecDepth 20000 in
theorem vBL_495 : am_vl 6 false ret code BL_495 = true := am_vt (tl := BL_508) 7 508 (by decide +kernel) rfl rfl vBL_508
set_option maxRecDepth 20000 in
theorem vBL_490 : am_vl 6 false ret code BL_490 = true := am_vt (tl := BL_495) 3 495 (by decide +kernel) rfl rfl vBL_495
set_option maxRecDepth 20000 in
theorem vBL_462 : am_vl 6 false ret code BL_462 = true := am_vt (tl := BL_490) 24 490 (by decide +kernel) rfl rfl vBL_490
set_option maxRecDepth 20000 in
theorem vBL_457 : am_vl 6 false ret code BL_457 = true := am_vt (tl := BL_462) 3 462 (by decide +kernel) rfl rfl vBL_462
set_option maxRecDepth 20000 in
theorem vBL_429 : am_vl 6 false ret code BL_429 = true := am_vt (tl := BL_457) 24 457 (by decide +kernel) rfl rfl vBL_457
set_option maxRecDepth 20000 in
theorem vBL_405 : am_vl 6 false ret code BL_405 = true := am_vt (tl := BL_429) 17 429 (by decide +kernel) rfl rfl vBL_429
set_option maxRecDepth 20000 in
theorem vBL_376 : am_vl 6 false ret code BL_376 = true := am_vt (tl := BL_405) 24 405 (by decide +kernel) rfl rfl vBL_405
set_option maxRecDepth 20000 in
theorem vBL_371 : am_vl 6 false ret code BL_371 = true := am_vt (tl := BL_376) 3 376 (by decide +kernel) rfl rfl vBL_376
set_option maxRecDepth 20000 in
theorem vBL_343 : am_vl 6 false ret code BL_343 = true := am_vt (tl := BL_371) 24 371 (by decide +kernel) rfl rfl vBL_371
set_option maxRecDepth 20000 in
theorem vBL_320 : am_vl 6 false ret code BL_320 = true := am_vt (tl := BL_343) 17 343 (by decide +kernel) rfl rfl vBL_343
set_option maxRecDepth 20000 in
theorem vBL_315 : am_vl 6 false ret code BL_315 = true := am_vt (tl := BL_320) 3 320 (by decide +kernel) rfl rfl vBL_320
set_option maxRecDepth 20000 in
theorem vBL_287 : am_vl 6 false ret code BL_287 = true := am_vt (tl := BL_315) 24 315 (by decide +kernel) rfl rfl vBL_315
set_option maxRecDepth 20000 in
theorem vBL_264 : am_vl 6 false ret code BL_264 = true := am_vt (tl := BL_287) 17 287 (by decide +kernel) rfl rfl vBL_287
set_option maxRecDepth 20000 in
theorem vBL_247 : am_vl 6 false ret code BL_247 = true := am_vt (tl := BL_264) 13 264 (by decide +kernel) rfl rfl vBL_264
set_option maxRecDepth 20000 in
theorem vBL_221 : am_vl 6 false ret code BL_221 = true := am_vt (tl := BL_247) 24 247 (by decide +kernel) rfl rfl vBL_247
set_option maxRecDepth 20000 in
theorem vBL_198 : am_vl 6 false ret code BL_198 = true := am_vt (tl := BL_221) 19 221 (by decide +kernel) rfl rfl vBL_221
set_option maxRecDepth 20000 in
theorem vBL_197 : am_vl 6 false ret code BL_197 = true := am_vt (tl := BL_198) 1 198 (by decide +kernel) rfl rfl vBL_198
set_option maxRecDepth 20000 in
theorem vBL_194 : am_vl 6 false ret code BL_194 = true := am_vt (tl := BL_197) 1 197 (by decide +kernel) rfl rfl vBL_197
set_option maxRecDepth 20000 in
theorem vBL_166 : am_vl 6 false ret code BL_166 = true := am_vt (tl := BL_194) 24 194 (by decide +kernel) rfl rfl vBL_194
set_option maxRecDepth 20000 in
theorem vBL_165 : am_vl 6 false ret code BL_165 = true := am_vt (tl := BL_166) 1 166 (by decide +kernel) rfl rfl vBL_166
set_option maxRecDepth 20000 in
theorem vBL_152 : am_vl 6 false ret code BL_152 = true := am_vt (tl := BL_165) 9 165 (by decide +kernel) rfl rfl vBL_165
set_option maxRecDepth 20000 in
theorem vBL_18 : am_vl 6 false ret code BL_18 = true := am_vt (tl := BL_152) 12 152 (by decide +kernel) rfl rfl vBL_152
set_option maxRecDepth 20000 in
theorem vBL_0 : am_vl 6 false ret code BL_0 = true := am_vt (tl := BL_18) 10 18 (by decide +kernel) rfl rfl vBL_18
end
section
def am_ms : List am_Q := [(0, yX0_init, cX0_init, 3, none, true, B0_init_0),
  (0, yX0_toldDropped, cX0_toldDropped, 1, (some .int), false, B0_toldDropped_0),
  (0, yX0_outLength, cX0_outLength, 1, (some .int), false, B0_outLength_0),
  (0, yX0_toldAs, cX0_toldAs, 2, (some .long), false, B0_toldAs_0),
  (0, yX0_dropValue, cX0_dropValue, 4, none, false, B0_dropValue_0),
  (0, yX0_await, cX0_await, 3, none, false, B0_await_0),
  (0, yX0_dropOne, cX0_dropOne, 3, none, false, B0_dropOne_0),
  (0, yX0_tell, cX0_tell, 3, none, false, B0_tell_0),
  (0, yX0_awaitFields, cX0_awaitFields, 6, none, false, B0_awaitFields_0),
  (0, yX0_awaitBoxed, cX0_awaitBoxed, 4, none, false, B0_awaitBoxed_0),
  (0, yX0_awaitElements, cX0_awaitElements, 5, none, false, B0_awaitElements_0),
  (1, yX1_init, cX1_init, 2, none, true, B1_init_0),
  (1, yX1_frameCount, cX1_frameCount, 1, (some .int), false, B1_frameCount_0),
  (1, yX1_lastFrame, cX1_lastFrame, 1, (some .int), false, B1_lastFrame_0),
  (1, yX1_addFrame, cX1_addFrame, 1, none, false, B1_addFrame_0),
  (1, yX1_removeFrame, cX1_removeFrame, 1, none, false, B1_removeFrame_0),
  (1, yX1_handCount, cX1_handCount, 1, (some .int), false, B1_handCount_0),
  (1, yX1_handOfLast, cX1_handOfLast, 1, (some .int), false, B1_handOfLast_0),
  (1, yX1_handHasRoomFor, cX1_handHasRoomFor, 2, (some .boolean), false, B1_handHasRoomFor_0),
  (1, yX1_handShape, cX1_handShape, 2, (some .int), false, B1_handShape_0),
  (1, yX1_topShape, cX1_topShape, 1, (some .int), false, B1_topShape_0),
  (1, yX1_handEndsWith, cX1_handEndsWith, 4, (some .boolean), false, B1_handEndsWith_0),
  (1, yX1_layOn, cX1_layOn, 2, none, false, B1_layOn_0),
  (1, yX1_takeOff, cX1_takeOff, 2, none, false, B1_takeOff_0),
  (1, yX1_slotShape, cX1_slotShape, 3, (some .int), false, B1_slotShape_0),
  (1, yX1_fillSlot, cX1_fillSlot, 4, none, false, B1_fillSlot_0),
  (1, yX1_hasSlot, cX1_hasSlot, 2, (some .boolean), false, B1_hasSlot_0),
  (1, yX1_filledSlots, cX1_filledSlots, 3, (some .int), false, B1_filledSlots_0),
  (2, yX2_init, cX2_init, 1, none, true, B2_init_0),
  (2, yX2_read, cX2_read, 2, (some .long), false, B2_read_0),
  (2, yX2_write, cX2_write, 4, none, false, B2_write_0),
  (2, yX2_moveCells, cX2_moveCells, 4, none, false, B2_moveCells_0),
  (2, yX2_swapCells, cX2_swapCells, 7, none, false, B2_swapCells_0),
  (2, yX2_areCells, cX2_areCells, 2, (some .boolean), false, B2_areCells_0),
  (2, yX2_boxesThere, cX2_boxesThere, 1, (some .int), false, B2_boxesThere_0),
  (2, yX2_rowsThere, cX2_rowsThere, 1, (some .int), false, B2_rowsThere_0),
  (2, yX2_takeBox, cX2_takeBox, 2, (some .int), false, B2_takeBox_0),
  (2, yX2_takeRow, cX2_takeRow, 3, (some .int), false, B2_takeRow_0),
  (2, yX2_firstFree, cX2_firstFree, 2, (some .int), false, B2_firstFree_0),
  (2, yX2_freeBox, cX2_freeBox, 3, none, false, B2_freeBox_0),
  (2, yX2_freeRow, cX2_freeRow, 3, none, false, B2_freeRow_0),
  (2, yX2_isBox, cX2_isBox, 2, (some .boolean), false, B2_isBox_0),
  (2, yX2_isRow, cX2_isRow, 2, (some .boolean), false, B2_isRow_0),
  (2, yX2_boxAt, cX2_boxAt, 3, (some .int), false, B2_boxAt_0),
  (2, yX2_rowAt, cX2_rowAt, 3, (some .int), false, B2_rowAt_0),
  (2, yX2_elementAt, cX2_elementAt, 4, (some .int), false, B2_elementAt_0),
  (2, yX2_lengthOf, cX2_lengthOf, 3, (some .int), false, B2_lengthOf_0),
  (2, yX2_setLength, cX2_setLength, 4, none, false, B2_setLength_0),
  (3, yX3_init, cX3_init, 1, none, true, B3_init_0),
  (3, yX3_add, cX3_add, 6, (some .int), false, B3_add_0),
  (3, yX3_tieLooseBox, cX3_tieLooseBox, 3, (some .boolean), false, B3_tieLooseBox_0),
  (3, yX3_howMany, cX3_howMany, 1, (some .int), false, B3_howMany_0),
  (3, yX3_has, cX3_has, 2, (some .boolean), false, B3_has_0),
  (3, yX3_hasOrNone, cX3_hasOrNone, 2, (some .boolean), false, B3_hasOrNone_0),
  (3, yX3_kindOf, cX3_kindOf, 2, (some .int), false, B3_kindOf_0),
  (3, yX3_sizeOf, cX3_sizeOf, 2, (some .int), false, B3_sizeOf_0),
  (3, yX3_partOf, cX3_partOf, 3, (some .int), false, B3_partOf_0),
  (3, yX3_partsOf, cX3_partsOf, 4, (some .int), false, B3_partsOf_0),
  (3, yX3_offsetOf, cX3_offsetOf, 5, (some .int), false, B3_offsetOf_0),
  (4, yX4_init, cX4_init, 1, none, true, B4_init_0),
  (4, yX4_record, cX4_record, 6, (some .int), false, B4_record_0),
  (4, yX4_choice, cX4_choice, 5, (some .int), false, B4_choice_0),
  (4, yX4_box, cX4_box, 2, (some .int), false, B4_box_0),
  (4, yX4_tie, cX4_tie, 3, (some .int), false, B4_tie_0),
  (4, yX4_row, cX4_row, 2, (some .int), false, B4_row_0),
  (4, yX4_about, cX4_about, 3, (some .int), false, B4_about_0),
  (4, yX4_number, cX4_number, 3, (some .int), false, B4_number_0),
  (4, yX4_make, cX4_make, 3, (some .int), false, B4_make_0),
  (4, yX4_gather, cX4_gather, 5, (some .int), false, B4_gather_0),
  (4, yX4_open, cX4_open, 5, (some .int), false, B4_open_0),
  (4, yX4_apart, cX4_apart, 2, (some .int), false, B4_apart_0),
  (4, yX4_drop, cX4_drop, 2, (some .int), false, B4_drop_0),
  (4, yX4_store, cX4_store, 4, (some .int), false, B4_store_0),
  (4, yX4_load, cX4_load, 4, (some .int), false, B4_load_0),
  (4, yX4_set, cX4_set, 4, (some .int), false, B4_set_0),
  (4, yX4_swap, cX4_swap, 4, (some .int), false, B4_swap_0),
  (4, yX4_push, cX4_push, 8, (some .int), false, B4_push_0),
  (4, yX4_pop, cX4_pop, 8, (some .int), false, B4_pop_0),
  (4, yX4_enter, cX4_enter, 6, (some .int), false, B4_enter_0),
  (4, yX4_leave, cX4_leave, 4, (some .int), false, B4_leave_0),
  (4, yX4_fail, cX4_fail, 3, (some .int), false, B4_fail_0),
  (4, yX4_shape, cX4_shape, 3, (some .int), false, B4_shape_0),
  (4, yX4_look, cX4_look, 3, (some .long), false, B4_look_0),
  (4, yX4_state, cX4_state, 3, (some .int), false, B4_state_0),
  (4, yX4_out, cX4_out, 2, (some .long), false, B4_out_0),
  (4, yX4_count, cX4_count, 2, (some .int), false, B4_count_0),
  (4, yX4_layOneCell, cX4_layOneCell, 4, (some .int), false, B4_layOneCell_0),
  (4, yX4_makeRecord, cX4_makeRecord, 7, (some .int), false, B4_makeRecord_0),
  (4, yX4_handEndsWithFieldsOf, cX4_handEndsWithFieldsOf, 5, (some .boolean), false, B4_handEndsWithFieldsOf_0),
  (4, yX4_makeChoice, cX4_makeChoice, 4, (some .int), false, B4_makeChoice_0),
  (4, yX4_makeBox, cX4_makeBox, 4, (some .int), false, B4_makeBox_0),
  (4, yX4_takeRecordApart, cX4_takeRecordApart, 7, (some .int), false, B4_takeRecordApart_0),
  (4, yX4_takeChoiceApart, cX4_takeChoiceApart, 3, (some .int), false, B4_takeChoiceApart_0),
  (4, yX4_replaceTopShape, cX4_replaceTopShape, 2, none, false, B4_replaceTopShape_0),
  (4, yX4_handAt, cX4_handAt, 1, (some .int), false, B4_handAt_0),
  (4, yX4_slotAt, cX4_slotAt, 2, (some .int), false, B4_slotAt_0),
  (4, yX4_isSlot, cX4_isSlot, 1, (some .boolean), false, B4_isSlot_0),
  (4, yX4_topAt, cX4_topAt, 1, (some .int), false, B4_topAt_0),
  (4, yX4_seek, cX4_seek, 6, (some .int), false, B4_seek_0),
  (4, yX4_step, cX4_step, 3, (some .int), false, B4_step_0),
  (4, yX4_stepToField, cX4_stepToField, 3, (some .int), false, B4_stepToField_0),
  (4, yX4_stepToPart, cX4_stepToPart, 3, (some .int), false, B4_stepToPart_0),
  (4, yX4_stepIntoBox, cX4_stepIntoBox, 2, (some .int), false, B4_stepIntoBox_0),
  (4, yX4_stepToElement, cX4_stepToElement, 5, (some .int), false, B4_stepToElement_0),
  (4, yX4_endLastFrame, cX4_endLastFrame, 5, none, false, B4_endLastFrame_0),
  (5, yX5_init, cX5_init, 2, none, true, B5_init_0),
  (5, yX5_in, cX5_in, 3, (some .boolean), false, B5_in_0),
  (5, yX5_isShape, cX5_isShape, 2, (some .boolean), false, B5_isShape_0),
  (5, yX5_come, cX5_come, 6, (some .int), false, B5_come_0),
  (5, yX5_sizeOf, cX5_sizeOf, 2, (some .int), false, B5_sizeOf_0),
  (5, yX5_record, cX5_record, 5, (some .int), false, B5_record_0),
  (5, yX5_choice, cX5_choice, 4, (some .int), false, B5_choice_0),
  (5, yX5_box, cX5_box, 2, (some .int), false, B5_box_0),
  (5, yX5_tie, cX5_tie, 3, (some .int), false, B5_tie_0),
  (5, yX5_row, cX5_row, 2, (some .int), false, B5_row_0),
  (5, yX5_about, cX5_about, 3, (some .int), false, B5_about_0),
  (5, yX5_node, cX5_node, 6, (some .int), false, B5_node_0),
  (5, yX5_grow, cX5_grow, 6, none, false, B5_grow_0),
  (5, yX5_free, cX5_free, 2, none, false, B5_free_0),
  (5, yX5_kindOf, cX5_kindOf, 2, (some .int), false, B5_kindOf_0),
  (5, yX5_dropped, cX5_dropped, 4, none, false, B5_dropped_0),
  (5, yX5_mine, cX5_mine, 1, (some .int), false, B5_mine_0),
  (5, yX5_top, cX5_top, 2, (some .int), false, B5_top_0),
  (5, yX5_slot, cX5_slot, 2, (some .int), false, B5_slot_0),
  (5, yX5_find, cX5_find, 8, (some .int), false, B5_find_0),
  (5, yX5_put, cX5_put, 2, none, false, B5_put_0),
  (5, yX5_comes, cX5_comes, 2, (some .int), false, B5_comes_0),
  (5, yX5_number, cX5_number, 3, (some .int), false, B5_number_0),
  (5, yX5_parts, cX5_parts, 3, (some .int), false, B5_parts_0),
  (5, yX5_wrap, cX5_wrap, 7, (some .int), false, B5_wrap_0),
  (5, yX5_make, cX5_make, 5, (some .int), false, B5_make_0),
  (5, yX5_gather, cX5_gather, 4, (some .int), false, B5_gather_0),
  (5, yX5_open, cX5_open, 2, (some .int), false, B5_open_0),
  (5, yX5_apart, cX5_apart, 4, (some .int), false, B5_apart_0),
  (5, yX5_drop, cX5_drop, 1, (some .int), false, B5_drop_0),
  (5, yX5_store, cX5_store, 2, (some .int), false, B5_store_0),
  (5, yX5_load, cX5_load, 3, (some .int), false, B5_load_0),
  (5, yX5_set, cX5_set, 4, (some .int), false, B5_set_0),
  (5, yX5_swap, cX5_swap, 4, (some .int), false, B5_swap_0),
  (5, yX5_push, cX5_push, 4, (some .int), false, B5_push_0),
  (5, yX5_pop, cX5_pop, 6, (some .int), false, B5_pop_0),
  (5, yX5_enter, cX5_enter, 3, (some .int), false, B5_enter_0),
  (5, yX5_empty, cX5_empty, 2, none, false, B5_empty_0),
  (5, yX5_leave, cX5_leave, 4, (some .int), false, B5_leave_0),
  (5, yX5_fail, cX5_fail, 2, (some .int), false, B5_fail_0),
  (5, yX5_shape, cX5_shape, 4, (some .int), false, B5_shape_0),
  (5, yX5_look, cX5_look, 4, (some .long), false, B5_look_0),
  (5, yX5_state, cX5_state, 4, (some .int), false, B5_state_0),
  (5, yX5_out, cX5_out, 2, (some .long), false, B5_out_0),
  (5, yX5_count, cX5_count, 4, (some .int), false, B5_count_0)]
theorem am_g_0 : am_gd 0 (0, yX0_init, cX0_init, 3, none, true, B0_init_0) := ⟨rfl, rfl, by decide, am_cw_X0_init, by decide, ⟨by decide, by decide⟩, fun _ => rfl, fun _ => rfl, vB0_init_0, rfl⟩
theorem am_g_1 : am_gd 1 (0, yX0_toldDropped, cX0_toldDropped, 1, (some .int), false, B0_toldDropped_0) := ⟨rfl, rfl, by decide, am_cw_X0_toldDropped, by decide, ⟨by decide, by decide⟩, fun h => (by cases h), fun h => absurd h (by decide), vB0_toldDropped_0, rfl⟩
theorem am_g_2 : am_gd 2 (0, yX0_outLength, cX0_outLength, 1, (some .int), false, B0_outLength_0) := ⟨rfl, rfl, by decide, am_cw_X0_outLength, by decide, ⟨by decide, by decide⟩, fun h => (by cases h), fun h => absurd h (by decide), vB0_outLength_0, rfl⟩
theorem am_g_3 : am_gd 3 (0, yX0_toldAs, cX0_toldAs, 2, (some .long), false, B0_toldAs_0) := ⟨rfl, rfl, by decide, am_cw_X0_toldAs, by decide, ⟨by decide, by decide⟩, fun h => (by cases h), fun h => absurd h (by decide), vB0_toldAs_0, rfl⟩
theorem am_g_4 : am_gd 4 (0, yX0_dropValue, cX0_dropValue, 4, none, false, B0_dropValue_0) := ⟨rfl, rfl, by decide, am_cw_X0_dropValue, by decide, ⟨by decide, by decide⟩, fun h => (by cases h), fun h => absurd h (by decide), vB0_dropValue_0, rfl⟩
theorem am_g_5 : am_gd 5 (0, yX0_await, cX0_await, 3, none, false, B0_await_0) := ⟨rfl, rfl, by decide, am_cw_X0_await, by decide, ⟨by decide, by decide⟩, fun h => (by cases h), fun h => absurd h (by decide), vB0_await_0, rfl⟩
theorem am_g_6 : am_gd 6 (0, yX0_dropOne, cX0_dropOne, 3, none, false, B0_dropOne_0) := ⟨rfl, rfl, by decide, am_cw_X0_dropOne, by decide, ⟨by decide, by decide⟩, fun h => (by cases h), fun h => absurd h (by decide), vB0_dropOne_0, rfl⟩
theorem am_g_7 : am_gd 7 (0, yX0_tell, cX0_tell, 3, none, false, B0_tell_0) := ⟨rfl, rfl, by decide, am_cw_X0_tell, by decide, ⟨by decide, by decide⟩, fun h => (by cases h), fun h => absurd h (by decide), vB0_tell_0, rfl⟩
theorem am_g_8 : am_gd 8 (0, yX0_awaitFields, cX0_awaitFields, 6, none, false, B0_awaitFields_0) := ⟨rfl, rfl, by decide, am_cw_X0_awaitFields, by decide, ⟨by decide, by decide⟩, fun h => (by cases h), fun h => absurd h (by decide), vB0_awaitFields_0, rfl⟩
theorem am_g_9 : am_gd 9 (0, yX0_awaitBoxed, cX0_awaitBoxed, 4, none, false, B0_awaitBoxed_0) := ⟨rfl, rfl, by decide, am_cw_X0_awaitBoxed, by decide, ⟨by decide, by decide⟩, fun h => (by cases h), fun h => absurd h (by decide), vB0_awaitBoxed_0, rfl⟩
theorem am_g_10 : am_gd 10 (0, yX0_awaitElements, cX0_awaitElements, 5, none, false, B0_awaitElements_0) := ⟨rfl, rfl, by decide, am_cw_X0_awaitElements, by decide, ⟨by decide, by decide⟩, fun h => (by cases h), fun h => absurd h (by decide), vB0_awaitElements_0, rfl⟩
theorem am_g_11 : am_gd 11 (1, yX1_init, cX1_init, 2, none, true, B1_init_0) := ⟨rfl, rfl, by decide, am_cw_X1_init, by decide, ⟨by decide, by decide⟩, fun _ => rfl, fun _ => rfl, vB1_init_0, rfl⟩
theorem am_g_12 : am_gd 12 (1, yX1_frameCount, cX1_frameCount, 1, (some .int), false, B1_frameCount_0) := ⟨rfl, rfl, by decide, am_cw_X1_frameCount, by decide, ⟨by decide, by decide⟩, fun h => (by cases h), fun h => absurd h (by decide), vB1_frameCount_0, rfl⟩
theorem am_g_13 : am_gd 13 (1, yX1_lastFrame, cX1_lastFrame, 1, (some .int), false, B1_lastFrame_0) := ⟨rfl, rfl, by decide, am_cw_X1_lastFrame, by decide, ⟨by decide, by decide⟩, fun h => (by cases h), fun h => absurd h (by decide), vB1_lastFrame_0, rfl⟩
theorem am_g_14 : am_gd 14 (1, yX1_addFrame, cX1_addFrame, 1, none, false, B1_addFrame_0) := ⟨rfl, rfl, by decide, am_cw_X1_addFrame, by decide, ⟨by decide, by decide⟩, fun h => (by cases h), fun h => absurd h (by decide), vB1_addFrame_0, rfl⟩
theorem am_g_15 : am_gd 15 (1, yX1_removeFrame, cX1_removeFrame, 1, none, false, B1_removeFrame_0) := ⟨rfl, rfl, by decide, am_cw_X1_removeFrame, by decide, ⟨by decide, by decide⟩, fun h => (by cases h), fun h => absurd h (by decide), vB1_removeFrame_0, rfl⟩
theorem am_g_16 : am_gd 16 (1, yX1_handCount, cX1_handCount, 1, (some .int), false, B1_handCount_0) := ⟨rfl, rfl, by decide, am_cw_X1_handCount, by decide, ⟨by decide, by decide⟩, fun h => (by cases h), fun h => absurd h (by decide), vB1_handCount_0, rfl⟩
theorem am_g_17 : am_gd 17 (1, yX1_handOfLast, cX1_handOfLast, 1, (some .int), false, B1_handOfLast_0) := ⟨rfl, rfl, by decide, am_cw_X1_handOfLast, by decide, ⟨by decide, by decide⟩, fun h => (by cases h), fun h => absurd h (by decide), vB1_handOfLast_0, rfl⟩
theorem am_g_18 : am_gd 18 (1, yX1_handHasRoomFor, cX1_handHasRoomFor, 2, (some .boolean), false, B1_handHasRoomFor_0) := ⟨rfl, rfl, by decide, am_cw_X1_handHasRoomFor, by decide, ⟨by decide, by decide⟩, fun h => (by cases h), fun h => absurd h (by decide), vB1_handHasRoomFor_0, rfl⟩
theorem am_g_19 : am_gd 19 (1, yX1_handShape, cX1_handShape, 2, (some .int), false, B1_handShape_0) := ⟨rfl, rfl, by decide, am_cw_X1_handShape, by decide, ⟨by decide, by decide⟩, fun h => (by cases h), fun h => absurd h (by decide), vB1_handShape_0, rfl⟩
theorem am_g_20 : am_gd 20 (1, yX1_topShape, cX1_topShape, 1, (some .int), false, B1_topShape_0) := ⟨rfl, rfl, by decide, am_cw_X1_topShape, by decide, ⟨by decide, by decide⟩, fun h => (by cases h), fun h => absurd h (by decide), vB1_topShape_0, rfl⟩
theorem am_g_21 : am_gd 21 (1, yX1_handEndsWith, cX1_handEndsWith, 4, (some .boolean), false, B1_handEndsWith_0) := ⟨rfl, rfl, by decide, am_cw_X1_handEndsWith, by decide, ⟨by decide, by decide⟩, fun h => (by cases h), fun h => absurd h (by decide), vB1_handEndsWith_0, rfl⟩
theorem am_g_22 : am_gd 22 (1, yX1_layOn, cX1_layOn, 2, none, false, B1_layOn_0) := ⟨rfl, rfl, by decide, am_cw_X1_layOn, by decide, ⟨by decide, by decide⟩, fun h => (by cases h), fun h => absurd h (by decide), vB1_layOn_0, rfl⟩
theorem am_g_23 : am_gd 23 (1, yX1_takeOff, cX1_takeOff, 2, none, false, B1_takeOff_0) := ⟨rfl, rfl, by decide, am_cw_X1_takeOff, by decide, ⟨by decide, by decide⟩, fun h => (by cases h), fun h => absurd h (by decide), vB1_takeOff_0, rfl⟩
theorem am_g_24 : am_gd 24 (1, yX1_slotShape, cX1_slotShape, 3, (some .int), false, B1_slotShape_0) := ⟨rfl, rfl, by decide, am_cw_X1_slotShape, by decide, ⟨by decide, by decide⟩, fun h => (by cases h), fun h => absurd h (by decide), vB1_slotShape_0, rfl⟩
theorem am_g_25 : am_gd 25 (1, yX1_fillSlot, cX1_fillSlot, 4, none, false, B1_fillSlot_0) := ⟨rfl, rfl, by decide, am_cw_X1_fillSlot, by decide, ⟨by decide, by decide⟩, fun h => (by cases h), fun h => absurd h (by decide), vB1_fillSlot_0, rfl⟩
theorem am_g_26 : am_gd 26 (1, yX1_hasSlot, cX1_hasSlot, 2, (some .boolean), false, B1_hasSlot_0) := ⟨rfl, rfl, by decide, am_cw_X1_hasSlot, by decide, ⟨by decide, by decide⟩, fun h => (by cases h), fun h => absurd h (by decide), vB1_hasSlot_0, rfl⟩
theorem am_g_27 : am_gd 27 (1, yX1_filledSlots, cX1_filledSlots, 3, (some .int), false, B1_filledSlots_0) := ⟨rfl, rfl, by decide, am_cw_X1_filledSlots, by decide, ⟨by decide, by decide⟩, fun h => (by cases h), fun h => absurd h (by decide), vB1_filledSlots_0, rfl⟩
theorem am_g_28 : am_gd 28 (2, yX2_init, cX2_init, 1, none, true, B2_init_0) := ⟨rfl, rfl, by decide, am_cw_X2_init, by decide, ⟨by decide, by decide⟩, fun _ => rfl, fun _ => rfl, vB2_init_0, rfl⟩
theorem am_g_29 : am_gd 29 (2, yX2_read, cX2_read, 2, (some .long), false, B2_read_0) := ⟨rfl, rfl, by decide, am_cw_X2_read, by decide, ⟨by decide, by decide⟩, fun h => (by cases h), fun h => absurd h (by decide), vB2_read_0, rfl⟩
theorem am_g_30 : am_gd 30 (2, yX2_write, cX2_write, 4, none, false, B2_write_0) := ⟨rfl, rfl, by decide, am_cw_X2_write, by decide, ⟨by decide, by decide⟩, fun h => (by cases h), fun h => absurd h (by decide), vB2_write_0, rfl⟩
theorem am_g_31 : am_gd 31 (2, yX2_moveCells, cX2_moveCells, 4, none, false, B2_moveCells_0) := ⟨rfl, rfl, by decide, am_cw_X2_moveCells, by decide, ⟨by decide, by decide⟩, fun h => (by cases h), fun h => absurd h (by decide), vB2_moveCells_0, rfl⟩
theorem am_g_32 : am_gd 32 (2, yX2_swapCells, cX2_swapCells, 7, none, false, B2_swapCells_0) := ⟨rfl, rfl, by decide, am_cw_X2_swapCells, by decide, ⟨by decide, by decide⟩, fun h => (by cases h), fun h => absurd h (by decide), vB2_swapCells_0, rfl⟩
theorem am_g_33 : am_gd 33 (2, yX2_areCells, cX2_areCells, 2, (some .boolean), false, B2_areCells_0) := ⟨rfl, rfl, by decide, am_cw_X2_areCells, by decide, ⟨by decide, by decide⟩, fun h => (by cases h), fun h => absurd h (by decide), vB2_areCells_0, rfl⟩
theorem am_g_34 : am_gd 34 (2, yX2_boxesThere, cX2_boxesThere, 1, (some .int), false, B2_boxesThere_0) := ⟨rfl, rfl, by decide, am_cw_X2_boxesThere, by decide, ⟨by decide, by decide⟩, fun h => (by cases h), fun h => absurd h (by decide), vB2_boxesThere_0, rfl⟩
theorem am_g_35 : am_gd 35 (2, yX2_rowsThere, cX2_rowsThere, 1, (some .int), false, B2_rowsThere_0) := ⟨rfl, rfl, by decide, am_cw_X2_rowsThere, by decide, ⟨by decide, by decide⟩, fun h => (by cases h), fun h => absurd h (by decide), vB2_rowsThere_0, rfl⟩
theorem am_g_36 : am_gd 36 (2, yX2_takeBox, cX2_takeBox, 2, (some .int), false, B2_takeBox_0) := ⟨rfl, rfl, by decide, am_cw_X2_takeBox, by decide, ⟨by decide, by decide⟩, fun h => (by cases h), fun h => absurd h (by decide), vB2_takeBox_0, rfl⟩
theorem am_g_37 : am_gd 37 (2, yX2_takeRow, cX2_takeRow, 3, (some .int), false, B2_takeRow_0) := ⟨rfl, rfl, by decide, am_cw_X2_takeRow, by decide, ⟨by decide, by decide⟩, fun h => (by cases h), fun h => absurd h (by decide), vB2_takeRow_0, rfl⟩
theorem am_g_38 : am_gd 38 (2, yX2_firstFree, cX2_firstFree, 2, (some .int), false, B2_firstFree_0) := ⟨rfl, rfl, by decide, am_cw_X2_firstFree, by decide, ⟨by decide, by decide⟩, fun h => (by cases h), fun h => absurd h (by decide), vB2_firstFree_0, rfl⟩
theorem am_g_39 : am_gd 39 (2, yX2_freeBox, cX2_freeBox, 3, none, false, B2_freeBox_0) := ⟨rfl, rfl, by decide, am_cw_X2_freeBox, by decide, ⟨by decide, by decide⟩, fun h => (by cases h), fun h => absurd h (by decide), vB2_freeBox_0, rfl⟩
theorem am_g_40 : am_gd 40 (2, yX2_freeRow, cX2_freeRow, 3, none, false, B2_freeRow_0) := ⟨rfl, rfl, by decide, am_cw_X2_freeRow, by decide, ⟨by decide, by decide⟩, fun h => (by cases h), fun h => absurd h (by decide), vB2_freeRow_0, rfl⟩
theorem am_g_41 : am_gd 41 (2, yX2_isBox, cX2_isBox, 2, (some .boolean), false, B2_isBox_0) := ⟨rfl, rfl, by decide, am_cw_X2_isBox, by decide, ⟨by decide, by decide⟩, fun h => (by cases h), fun h => absurd h (by decide), vB2_isBox_0, rfl⟩
theorem am_g_42 : am_gd 42 (2, yX2_isRow, cX2_isRow, 2, (some .boolean), false, B2_isRow_0) := ⟨rfl, rfl, by decide, am_cw_X2_isRow, by decide, ⟨by decide, by decide⟩, fun h => (by cases h), fun h => absurd h (by decide), vB2_isRow_0, rfl⟩
theorem am_g_43 : am_gd 43 (2, yX2_boxAt, cX2_boxAt, 3, (some .int), false, B2_boxAt_0) := ⟨rfl, rfl, by decide, am_cw_X2_boxAt, by decide, ⟨by decide, by decide⟩, fun h => (by cases h), fun h => absurd h (by decide), vB2_boxAt_0, rfl⟩
theorem am_g_44 : am_gd 44 (2, yX2_rowAt, cX2_rowAt, 3, (some .int), false, B2_rowAt_0) := ⟨rfl, rfl, by decide, am_cw_X2_rowAt, by decide, ⟨by decide, by decide⟩, fun h => (by cases h), fun h => absurd h (by decide), vB2_rowAt_0, rfl⟩
theorem am_g_45 : am_gd 45 (2, yX2_elementAt, cX2_elementAt, 4, (some .int), false, B2_elementAt_0) := ⟨rfl, rfl, by decide, am_cw_X2_elementAt, by decide, ⟨by decide, by decide⟩, fun h => (by cases h), fun h => absurd h (by decide), vB2_elementAt_0, rfl⟩
theorem am_g_46 : am_gd 46 (2, yX2_lengthOf, cX2_lengthOf, 3, (some .int), false, B2_lengthOf_0) := ⟨rfl, rfl, by decide, am_cw_X2_lengthOf, by decide, ⟨by decide, by decide⟩, fun h => (by cases h), fun h => absurd h (by decide), vB2_lengthOf_0, rfl⟩
theorem am_g_47 : am_gd 47 (2, yX2_setLength, cX2_setLength, 4, none, false, B2_setLength_0) := ⟨rfl, rfl, by decide, am_cw_X2_setLength, by decide, ⟨by decide, by decide⟩, fun h => (by cases h), fun h => absurd h (by decide), vB2_setLength_0, rfl⟩
theorem am_g_48 : am_gd 48 (3, yX3_init, cX3_init, 1, none, true, B3_init_0) := ⟨rfl, rfl, by decide, am_cw_X3_init, by decide, ⟨by decide, by decide⟩, fun _ => rfl, fun _ => rfl, vB3_init_0, rfl⟩
theorem am_g_49 : am_gd 49 (3, yX3_add, cX3_add, 6, (some .int), false, B3_add_0) := ⟨rfl, rfl, by decide, am_cw_X3_add, by decide, ⟨by decide, by decide⟩, fun h => (by cases h), fun h => absurd h (by decide), vB3_add_0, rfl⟩
theorem am_g_50 : am_gd 50 (3, yX3_tieLooseBox, cX3_tieLooseBox, 3, (some .boolean), false, B3_tieLooseBox_0) := ⟨rfl, rfl, by decide, am_cw_X3_tieLooseBox, by decide, ⟨by decide, by decide⟩, fun h => (by cases h), fun h => absurd h (by decide), vB3_tieLooseBox_0, rfl⟩
theorem am_g_51 : am_gd 51 (3, yX3_howMany, cX3_howMany, 1, (some .int), false, B3_howMany_0) := ⟨rfl, rfl, by decide, am_cw_X3_howMany, by decide, ⟨by decide, by decide⟩, fun h => (by cases h), fun h => absurd h (by decide), vB3_howMany_0, rfl⟩
theorem am_g_52 : am_gd 52 (3, yX3_has, cX3_has, 2, (some .boolean), false, B3_has_0) := ⟨rfl, rfl, by decide, am_cw_X3_has, by decide, ⟨by decide, by decide⟩, fun h => (by cases h), fun h => absurd h (by decide), vB3_has_0, rfl⟩
theorem am_g_53 : am_gd 53 (3, yX3_hasOrNone, cX3_hasOrNone, 2, (some .boolean), false, B3_hasOrNone_0) := ⟨rfl, rfl, by decide, am_cw_X3_hasOrNone, by decide, ⟨by decide, by decide⟩, fun h => (by cases h), fun h => absurd h (by decide), vB3_hasOrNone_0, rfl⟩
theorem am_g_54 : am_gd 54 (3, yX3_kindOf, cX3_kindOf, 2, (some .int), false, B3_kindOf_0) := ⟨rfl, rfl, by decide, am_cw_X3_kindOf, by decide, ⟨by decide, by decide⟩, fun h => (by cases h), fun h => absurd h (by decide), vB3_kindOf_0, rfl⟩
theorem am_g_55 : am_gd 55 (3, yX3_sizeOf, cX3_sizeOf, 2, (some .int), false, B3_sizeOf_0) := ⟨rfl, rfl, by decide, am_cw_X3_sizeOf, by decide, ⟨by decide, by decide⟩, fun h => (by cases h), fun h => absurd h (by decide), vB3_sizeOf_0, rfl⟩
theorem am_g_56 : am_gd 56 (3, yX3_partOf, cX3_partOf, 3, (some .int), false, B3_partOf_0) := ⟨rfl, rfl, by decide, am_cw_X3_partOf, by decide, ⟨by decide, by decide⟩, fun h => (by cases h), fun h => absurd h (by decide), vB3_partOf_0, rfl⟩
theorem am_g_57 : am_gd 57 (3, yX3_partsOf, cX3_partsOf, 4, (some .int), false, B3_partsOf_0) := ⟨rfl, rfl, by decide, am_cw_X3_partsOf, by decide, ⟨by decide, by decide⟩, fun h => (by cases h), fun h => absurd h (by decide), vB3_partsOf_0, rfl⟩
theorem am_g_58 : am_gd 58 (3, yX3_offsetOf, cX3_offsetOf, 5, (some .int), false, B3_offsetOf_0) := ⟨rfl, rfl, by decide, am_cw_X3_offsetOf, by decide, ⟨by decide, by decide⟩, fun h => (by cases h), fun h => absurd h (by decide), vB3_offsetOf_0, rfl⟩
theorem am_g_59 : am_gd 59 (4, yX4_init, cX4_init, 1, none, true, B4_init_0) := ⟨rfl, rfl, by decide, am_cw_X4_init, by decide, ⟨by decide, by decide⟩, fun _ => rfl, fun _ => rfl, vB4_init_0, rfl⟩
theorem am_g_60 : am_gd 60 (4, yX4_record, cX4_record, 6, (some .int), false, B4_record_0) := ⟨rfl, rfl, by decide, am_cw_X4_record, by decide, ⟨by decide, by decide⟩, fun h => (by cases h), fun h => absurd h (by decide), vB4_record_0, rfl⟩
theorem am_g_61 : am_gd 61 (4, yX4_choice, cX4_choice, 5, (some .int), false, B4_choice_0) := ⟨rfl, rfl, by decide, am_cw_X4_choice, by decide, ⟨by decide, by decide⟩, fun h => (by cases h), fun h => absurd h (by decide), vB4_choice_0, rfl⟩
theorem am_g_62 : am_gd 62 (4, yX4_box, cX4_box, 2, (some .int), false, B4_box_0) := ⟨rfl, rfl, by decide, am_cw_X4_box, by decide, ⟨by decide, by decide⟩, fun h => (by cases h), fun h => absurd h (by decide), vB4_box_0, rfl⟩
theorem am_g_63 : am_gd 63 (4, yX4_tie, cX4_tie, 3, (some .int), false, B4_tie_0) := ⟨rfl, rfl, by decide, am_cw_X4_tie, by decide, ⟨by decide, by decide⟩, fun h => (by cases h), fun h => absurd h (by decide), vB4_tie_0, rfl⟩
theorem am_g_64 : am_gd 64 (4, yX4_row, cX4_row, 2, (some .int), false, B4_row_0) := ⟨rfl, rfl, by decide, am_cw_X4_row, by decide, ⟨by decide, by decide⟩, fun h => (by cases h), fun h => absurd h (by decide), vB4_row_0, rfl⟩
theorem am_g_65 : am_gd 65 (4, yX4_about, cX4_about, 3, (some .int), false, B4_about_0) := ⟨rfl, rfl, by decide, am_cw_X4_about, by decide, ⟨by decide, by decide⟩, fun h => (by cases h), fun h => absurd h (by decide), vB4_about_0, rfl⟩
theorem am_g_66 : am_gd 66 (4, yX4_number, cX4_number, 3, (some .int), false, B4_number_0) := ⟨rfl, rfl, by decide, am_cw_X4_number, by decide, ⟨by decide, by decide⟩, fun h => (by cases h), fun h => absurd h (by decide), vB4_number_0, rfl⟩
theorem am_g_67 : am_gd 67 (4, yX4_make, cX4_make, 3, (some .int), false, B4_make_0) := ⟨rfl, rfl, by decide, am_cw_X4_make, by decide, ⟨by decide, by decide⟩, fun h => (by cases h), fun h => absurd h (by decide), vB4_make_0, rfl⟩
theorem am_g_68 : am_gd 68 (4, yX4_gather, cX4_gather, 5, (some .int), false, B4_gather_0) := ⟨rfl, rfl, by decide, am_cw_X4_gather, by decide, ⟨by decide, by decide⟩, fun h => (by cases h), fun h => absurd h (by decide), vB4_gather_0, rfl⟩
theorem am_g_69 : am_gd 69 (4, yX4_open, cX4_open, 5, (some .int), false, B4_open_0) := ⟨rfl, rfl, by decide, am_cw_X4_open, by decide, ⟨by decide, by decide⟩, fun h => (by cases h), fun h => absurd h (by decide), vB4_open_0, rfl⟩
theorem am_g_70 : am_gd 70 (4, yX4_apart, cX4_apart, 2, (some .int), false, B4_apart_0) := ⟨rfl, rfl, by decide, am_cw_X4_apart, by decide, ⟨by decide, by decide⟩, fun h => (by cases h), fun h => absurd h (by decide), vB4_apart_0, rfl⟩
theorem am_g_71 : am_gd 71 (4, yX4_drop, cX4_drop, 2, (some .int), false, B4_drop_0) := ⟨rfl, rfl, by decide, am_cw_X4_drop, by decide, ⟨by decide, by decide⟩, fun h => (by cases h), fun h => absurd h (by decide), vB4_drop_0, rfl⟩
theorem am_g_72 : am_gd 72 (4, yX4_store, cX4_store, 4, (some .int), false, B4_store_0) := ⟨rfl, rfl, by decide, am_cw_X4_store, by decide, ⟨by decide, by decide⟩, fun h => (by cases h), fun h => absurd h (by decide), vB4_store_0, rfl⟩
theorem am_g_73 : am_gd 73 (4, yX4_load, cX4_load, 4, (some .int), false, B4_load_0) := ⟨rfl, rfl, by decide, am_cw_X4_load, by decide, ⟨by decide, by decide⟩, fun h => (by cases h), fun h => absurd h (by decide), vB4_load_0, rfl⟩
theorem am_g_74 : am_gd 74 (4, yX4_set, cX4_set, 4, (some .int), false, B4_set_0) := ⟨rfl, rfl, by decide, am_cw_X4_set, by decide, ⟨by decide, by decide⟩, fun h => (by cases h), fun h => absurd h (by decide), vB4_set_0, rfl⟩
theorem am_g_75 : am_gd 75 (4, yX4_swap, cX4_swap, 4, (some .int), false, B4_swap_0) := ⟨rfl, rfl, by decide, am_cw_X4_swap, by decide, ⟨by decide, by decide⟩, fun h => (by cases h), fun h => absurd h (by decide), vB4_swap_0, rfl⟩
theorem am_g_76 : am_gd 76 (4, yX4_push, cX4_push, 8, (some .int), false, B4_push_0) := ⟨rfl, rfl, by decide, am_cw_X4_push, by decide, ⟨by decide, by decide⟩, fun h => (by cases h), fun h => absurd h (by decide), vB4_push_0, rfl⟩
theorem am_g_77 : am_gd 77 (4, yX4_pop, cX4_pop, 8, (some .int), false, B4_pop_0) := ⟨rfl, rfl, by decide, am_cw_X4_pop, by decide, ⟨by decide, by decide⟩, fun h => (by cases h), fun h => absurd h (by decide), vB4_pop_0, rfl⟩
theorem am_g_78 : am_gd 78 (4, yX4_enter, cX4_enter, 6, (some .int), false, B4_enter_0) := ⟨rfl, rfl, by decide, am_cw_X4_enter, by decide, ⟨by decide, by decide⟩, fun h => (by cases h), fun h => absurd h (by decide), vB4_enter_0, rfl⟩
theorem am_g_79 : am_gd 79 (4, yX4_leave, cX4_leave, 4, (some .int), false, B4_leave_0) := ⟨rfl, rfl, by decide, am_cw_X4_leave, by decide, ⟨by decide, by decide⟩, fun h => (by cases h), fun h => absurd h (by decide), vB4_leave_0, rfl⟩
theorem am_g_80 : am_gd 80 (4, yX4_fail, cX4_fail, 3, (some .int), false, B4_fail_0) := ⟨rfl, rfl, by decide, am_cw_X4_fail, by decide, ⟨by decide, by decide⟩, fun h => (by cases h), fun h => absurd h (by decide), vB4_fail_0, rfl⟩
theorem am_g_81 : am_gd 81 (4, yX4_shape, cX4_shape, 3, (some .int), false, B4_shape_0) := ⟨rfl, rfl, by decide, am_cw_X4_shape, by decide, ⟨by decide, by decide⟩, fun h => (by cases h), fun h => absurd h (by decide), vB4_shape_0, rfl⟩
theorem am_g_82 : am_gd 82 (4, yX4_look, cX4_look, 3, (some .long), false, B4_look_0) := ⟨rfl, rfl, by decide, am_cw_X4_look, by decide, ⟨by decide, by decide⟩, fun h => (by cases h), fun h => absurd h (by decide), vB4_look_0, rfl⟩
theorem am_g_83 : am_gd 83 (4, yX4_state, cX4_state, 3, (some .int), false, B4_state_0) := ⟨rfl, rfl, by decide, am_cw_X4_state, by decide, ⟨by decide, by decide⟩, fun h => (by cases h), fun h => absurd h (by decide), vB4_state_0, rfl⟩
theorem am_g_84 : am_gd 84 (4, yX4_out, cX4_out, 2, (some .long), false, B4_out_0) := ⟨rfl, rfl, by decide, am_cw_X4_out, by decide, ⟨by decide, by decide⟩, fun h => (by cases h), fun h => absurd h (by decide), vB4_out_0, rfl⟩
theorem am_g_85 : am_gd 85 (4, yX4_count, cX4_count, 2, (some .int), false, B4_count_0) := ⟨rfl, rfl, by decide, am_cw_X4_count, by decide, ⟨by decide, by decide⟩, fun h => (by cases h), fun h => absurd h (by decide), vB4_count_0, rfl⟩
theorem am_g_86 : am_gd 86 (4, yX4_layOneCell, cX4_layOneCell, 4, (some .int), false, B4_layOneCell_0) := ⟨rfl, rfl, by decide, am_cw_X4_layOneCell, by decide, ⟨by decide, by decide⟩, fun h => (by cases h), fun h => absurd h (by decide), vB4_layOneCell_0, rfl⟩
theorem am_g_87 : am_gd 87 (4, yX4_makeRecord, cX4_makeRecord, 7, (some .int), false, B4_makeRecord_0) := ⟨rfl, rfl, by decide, am_cw_X4_makeRecord, by decide, ⟨by decide, by decide⟩, fun h => (by cases h), fun h => absurd h (by decide), vB4_makeRecord_0, rfl⟩
theorem am_g_88 : am_gd 88 (4, yX4_handEndsWithFieldsOf, cX4_handEndsWithFieldsOf, 5, (some .boolean), false, B4_handEndsWithFieldsOf_0) := ⟨rfl, rfl, by decide, am_cw_X4_handEndsWithFieldsOf, by decide, ⟨by decide, by decide⟩, fun h => (by cases h), fun h => absurd h (by decide), vB4_handEndsWithFieldsOf_0, rfl⟩
theorem am_g_89 : am_gd 89 (4, yX4_makeChoice, cX4_makeChoice, 4, (some .int), false, B4_makeChoice_0) := ⟨rfl, rfl, by decide, am_cw_X4_makeChoice, by decide, ⟨by decide, by decide⟩, fun h => (by cases h), fun h => absurd h (by decide), vB4_makeChoice_0, rfl⟩
theorem am_g_90 : am_gd 90 (4, yX4_makeBox, cX4_makeBox, 4, (some .int), false, B4_makeBox_0) := ⟨rfl, rfl, by decide, am_cw_X4_makeBox, by decide, ⟨by decide, by decide⟩, fun h => (by cases h), fun h => absurd h (by decide), vB4_makeBox_0, rfl⟩
theorem am_g_91 : am_gd 91 (4, yX4_takeRecordApart, cX4_takeRecordApart, 7, (some .int), false, B4_takeRecordApart_0) := ⟨rfl, rfl, by decide, am_cw_X4_takeRecordApart, by decide, ⟨by decide, by decide⟩, fun h => (by cases h), fun h => absurd h (by decide), vB4_takeRecordApart_0, rfl⟩
theorem am_g_92 : am_gd 92 (4, yX4_takeChoiceApart, cX4_takeChoiceApart, 3, (some .int), false, B4_takeChoiceApart_0) := ⟨rfl, rfl, by decide, am_cw_X4_takeChoiceApart, by decide, ⟨by decide, by decide⟩, fun h => (by cases h), fun h => absurd h (by decide), vB4_takeChoiceApart_0, rfl⟩
theorem am_g_93 : am_gd 93 (4, yX4_replaceTopShape, cX4_replaceTopShape, 2, none, false, B4_replaceTopShape_0) := ⟨rfl, rfl, by decide, am_cw_X4_replaceTopShape, by decide, ⟨by decide, by decide⟩, fun h => (by cases h), fun h => absurd h (by decide), vB4_replaceTopShape_0, rfl⟩
theorem am_g_94 : am_gd 94 (4, yX4_handAt, cX4_handAt, 1, (some .int), false, B4_handAt_0) := ⟨rfl, rfl, by decide, am_cw_X4_handAt, by decide, ⟨by decide, by decide⟩, fun h => (by cases h), fun h => absurd h (by decide), vB4_handAt_0, rfl⟩
theorem am_g_95 : am_gd 95 (4, yX4_slotAt, cX4_slotAt, 2, (some .int), false, B4_slotAt_0) := ⟨rfl, rfl, by decide, am_cw_X4_slotAt, by decide, ⟨by decide, by decide⟩, fun h => (by cases h), fun h => absurd h (by decide), vB4_slotAt_0, rfl⟩
theorem am_g_96 : am_gd 96 (4, yX4_isSlot, cX4_isSlot, 1, (some .boolean), false, B4_isSlot_0) := ⟨rfl, rfl, by decide, am_cw_X4_isSlot, by decide, ⟨by decide, by decide⟩, fun h => (by cases h), fun h => absurd h (by decide), vB4_isSlot_0, rfl⟩
theorem am_g_97 : am_gd 97 (4, yX4_topAt, cX4_topAt, 1, (some .int), false, B4_topAt_0) := ⟨rfl, rfl, by decide, am_cw_X4_topAt, by decide, ⟨by decide, by decide⟩, fun h => (by cases h), fun h => absurd h (by decide), vB4_topAt_0, rfl⟩
theorem am_g_98 : am_gd 98 (4, yX4_seek, cX4_seek, 6, (some .int), false, B4_seek_0) := ⟨rfl, rfl, by decide, am_cw_X4_seek, by decide, ⟨by decide, by decide⟩, fun h => (by cases h), fun h => absurd h (by decide), vB4_seek_0, rfl⟩
theorem am_g_99 : am_gd 99 (4, yX4_step, cX4_step, 3, (some .int), false, B4_step_0) := ⟨rfl, rfl, by decide, am_cw_X4_step, by decide, ⟨by decide, by decide⟩, fun h => (by cases h), fun h => absurd h (by decide), vB4_step_0, rfl⟩
theorem am_g_100 : am_gd 100 (4, yX4_stepToField, cX4_stepToField, 3, (some .int), false, B4_stepToField_0) := ⟨rfl, rfl, by decide, am_cw_X4_stepToField, by decide, ⟨by decide, by decide⟩, fun h => (by cases h), fun h => absurd h (by decide), vB4_stepToField_0, rfl⟩
theorem am_g_101 : am_gd 101 (4, yX4_stepToPart, cX4_stepToPart, 3, (some .int), false, B4_stepToPart_0) := ⟨rfl, rfl, by decide, am_cw_X4_stepToPart, by decide, ⟨by decide, by decide⟩, fun h => (by cases h), fun h => absurd h (by decide), vB4_stepToPart_0, rfl⟩
theorem am_g_102 : am_gd 102 (4, yX4_stepIntoBox, cX4_stepIntoBox, 2, (some .int), false, B4_stepIntoBox_0) := ⟨rfl, rfl, by decide, am_cw_X4_stepIntoBox, by decide, ⟨by decide, by decide⟩, fun h => (by cases h), fun h => absurd h (by decide), vB4_stepIntoBox_0, rfl⟩
theorem am_g_103 : am_gd 103 (4, yX4_stepToElement, cX4_stepToElement, 5, (some .int), false, B4_stepToElement_0) := ⟨rfl, rfl, by decide, am_cw_X4_stepToElement, by decide, ⟨by decide, by decide⟩, fun h => (by cases h), fun h => absurd h (by decide), vB4_stepToElement_0, rfl⟩
theorem am_g_104 : am_gd 104 (4, yX4_endLastFrame, cX4_endLastFrame, 5, none, false, B4_endLastFrame_0) := ⟨rfl, rfl, by decide, am_cw_X4_endLastFrame, by decide, ⟨by decide, by decide⟩, fun h => (by cases h), fun h => absurd h (by decide), vB4_endLastFrame_0, rfl⟩
theorem am_g_105 : am_gd 105 (5, yX5_init, cX5_init, 2, none, true, B5_init_0) := ⟨rfl, rfl, by decide, am_cw_X5_init, by decide, ⟨by decide, by decide⟩, fun _ => rfl, fun _ => rfl, vB5_init_0, rfl⟩
theorem am_g_106 : am_gd 106 (5, yX5_in, cX5_in, 3, (some .boolean), false, B5_in_0) := ⟨rfl, rfl, by decide, am_cw_X5_in, by decide, ⟨by decide, by decide⟩, fun h => (by cases h), fun h => absurd h (by decide), vB5_in_0, rfl⟩
theorem am_g_107 : am_gd 107 (5, yX5_isShape, cX5_isShape, 2, (some .boolean), false, B5_isShape_0) := ⟨rfl, rfl, by decide, am_cw_X5_isShape, by decide, ⟨by decide, by decide⟩, fun h => (by cases h), fun h => absurd h (by decide), vB5_isShape_0, rfl⟩
theorem am_g_108 : am_gd 108 (5, yX5_come, cX5_come, 6, (some .int), false, B5_come_0) := ⟨rfl, rfl, by decide, am_cw_X5_come, by decide, ⟨by decide, by decide⟩, fun h => (by cases h), fun h => absurd h (by decide), vB5_come_0, rfl⟩
theorem am_g_109 : am_gd 109 (5, yX5_sizeOf, cX5_sizeOf, 2, (some .int), false, B5_sizeOf_0) := ⟨rfl, rfl, by decide, am_cw_X5_sizeOf, by decide, ⟨by decide, by decide⟩, fun h => (by cases h), fun h => absurd h (by decide), vB5_sizeOf_0, rfl⟩
theorem am_g_110 : am_gd 110 (5, yX5_record, cX5_record, 5, (some .int), false, B5_record_0) := ⟨rfl, rfl, by decide, am_cw_X5_record, by decide, ⟨by decide, by decide⟩, fun h => (by cases h), fun h => absurd h (by decide), vB5_record_0, rfl⟩
theorem am_g_111 : am_gd 111 (5, yX5_choice, cX5_choice, 4, (some .int), false, B5_choice_0) := ⟨rfl, rfl, by decide, am_cw_X5_choice, by decide, ⟨by decide, by decide⟩, fun h => (by cases h), fun h => absurd h (by decide), vB5_choice_0, rfl⟩
theorem am_g_112 : am_gd 112 (5, yX5_box, cX5_box, 2, (some .int), false, B5_box_0) := ⟨rfl, rfl, by decide, am_cw_X5_box, by decide, ⟨by decide, by decide⟩, fun h => (by cases h), fun h => absurd h (by decide), vB5_box_0, rfl⟩
theorem am_g_113 : am_gd 113 (5, yX5_tie, cX5_tie, 3, (some .int), false, B5_tie_0) := ⟨rfl, rfl, by decide, am_cw_X5_tie, by decide, ⟨by decide, by decide⟩, fun h => (by cases h), fun h => absurd h (by decide), vB5_tie_0, rfl⟩
theorem am_g_114 : am_gd 114 (5, yX5_row, cX5_row, 2, (some .int), false, B5_row_0) := ⟨rfl, rfl, by decide, am_cw_X5_row, by decide, ⟨by decide, by decide⟩, fun h => (by cases h), fun h => absurd h (by decide), vB5_row_0, rfl⟩
theorem am_g_115 : am_gd 115 (5, yX5_about, cX5_about, 3, (some .int), false, B5_about_0) := ⟨rfl, rfl, by decide, am_cw_X5_about, by decide, ⟨by decide, by decide⟩, fun h => (by cases h), fun h => absurd h (by decide), vB5_about_0, rfl⟩
theorem am_g_116 : am_gd 116 (5, yX5_node, cX5_node, 6, (some .int), false, B5_node_0) := ⟨rfl, rfl, by decide, am_cw_X5_node, by decide, ⟨by decide, by decide⟩, fun h => (by cases h), fun h => absurd h (by decide), vB5_node_0, rfl⟩
theorem am_g_117 : am_gd 117 (5, yX5_grow, cX5_grow, 6, none, false, B5_grow_0) := ⟨rfl, rfl, by decide, am_cw_X5_grow, by decide, ⟨by decide, by decide⟩, fun h => (by cases h), fun h => absurd h (by decide), vB5_grow_0, rfl⟩
theorem am_g_118 : am_gd 118 (5, yX5_free, cX5_free, 2, none, false, B5_free_0) := ⟨rfl, rfl, by decide, am_cw_X5_free, by decide, ⟨by decide, by decide⟩, fun h => (by cases h), fun h => absurd h (by decide), vB5_free_0, rfl⟩
theorem am_g_119 : am_gd 119 (5, yX5_kindOf, cX5_kindOf, 2, (some .int), false, B5_kindOf_0) := ⟨rfl, rfl, by decide, am_cw_X5_kindOf, by decide, ⟨by decide, by decide⟩, fun h => (by cases h), fun h => absurd h (by decide), vB5_kindOf_0, rfl⟩
theorem am_g_120 : am_gd 120 (5, yX5_dropped, cX5_dropped, 4, none, false, B5_dropped_0) := ⟨rfl, rfl, by decide, am_cw_X5_dropped, by decide, ⟨by decide, by decide⟩, fun h => (by cases h), fun h => absurd h (by decide), vB5_dropped_0, rfl⟩
theorem am_g_121 : am_gd 121 (5, yX5_mine, cX5_mine, 1, (some .int), false, B5_mine_0) := ⟨rfl, rfl, by decide, am_cw_X5_mine, by decide, ⟨by decide, by decide⟩, fun h => (by cases h), fun h => absurd h (by decide), vB5_mine_0, rfl⟩
theorem am_g_122 : am_gd 122 (5, yX5_top, cX5_top, 2, (some .int), false, B5_top_0) := ⟨rfl, rfl, by decide, am_cw_X5_top, by decide, ⟨by decide, by decide⟩, fun h => (by cases h), fun h => absurd h (by decide), vB5_top_0, rfl⟩
theorem am_g_123 : am_gd 123 (5, yX5_slot, cX5_slot, 2, (some .int), false, B5_slot_0) := ⟨rfl, rfl, by decide, am_cw_X5_slot, by decide, ⟨by decide, by decide⟩, fun h => (by cases h), fun h => absurd h (by decide), vB5_slot_0, rfl⟩
theorem am_g_124 : am_gd 124 (5, yX5_find, cX5_find, 8, (some .int), false, B5_find_0) := ⟨rfl, rfl, by decide, am_cw_X5_find, by decide, ⟨by decide, by decide⟩, fun h => (by cases h), fun h => absurd h (by decide), vB5_find_0, rfl⟩
theorem am_g_125 : am_gd 125 (5, yX5_put, cX5_put, 2, none, false, B5_put_0) := ⟨rfl, rfl, by decide, am_cw_X5_put, by decide, ⟨by decide, by decide⟩, fun h => (by cases h), fun h => absurd h (by decide), vB5_put_0, rfl⟩
theorem am_g_126 : am_gd 126 (5, yX5_comes, cX5_comes, 2, (some .int), false, B5_comes_0) := ⟨rfl, rfl, by decide, am_cw_X5_comes, by decide, ⟨by decide, by decide⟩, fun h => (by cases h), fun h => absurd h (by decide), vB5_comes_0, rfl⟩
theorem am_g_127 : am_gd 127 (5, yX5_number, cX5_number, 3, (some .int), false, B5_number_0) := ⟨rfl, rfl, by decide, am_cw_X5_number, by decide, ⟨by decide, by decide⟩, fun h => (by cases h), fun h => absurd h (by decide), vB5_number_0, rfl⟩
theorem am_g_128 : am_gd 128 (5, yX5_parts, cX5_parts, 3, (some .int), false, B5_parts_0) := ⟨rfl, rfl, by decide, am_cw_X5_parts, by decide, ⟨by decide, by decide⟩, fun h => (by cases h), fun h => absurd h (by decide), vB5_parts_0, rfl⟩
theorem am_g_129 : am_gd 129 (5, yX5_wrap, cX5_wrap, 7, (some .int), false, B5_wrap_0) := ⟨rfl, rfl, by decide, am_cw_X5_wrap, by decide, ⟨by decide, by decide⟩, fun h => (by cases h), fun h => absurd h (by decide), vB5_wrap_0, rfl⟩
theorem am_g_130 : am_gd 130 (5, yX5_make, cX5_make, 5, (some .int), false, B5_make_0) := ⟨rfl, rfl, by decide, am_cw_X5_make, by decide, ⟨by decide, by decide⟩, fun h => (by cases h), fun h => absurd h (by decide), vB5_make_0, rfl⟩
theorem am_g_131 : am_gd 131 (5, yX5_gather, cX5_gather, 4, (some .int), false, B5_gather_0) := ⟨rfl, rfl, by decide, am_cw_X5_gather, by decide, ⟨by decide, by decide⟩, fun h => (by cases h), fun h => absurd h (by decide), vB5_gather_0, rfl⟩
theorem am_g_132 : am_gd 132 (5, yX5_open, cX5_open, 2, (some .int), false, B5_open_0) := ⟨rfl, rfl, by decide, am_cw_X5_open, by decide, ⟨by decide, by decide⟩, fun h => (by cases h), fun h => absurd h (by decide), vB5_open_0, rfl⟩
theorem am_g_133 : am_gd 133 (5, yX5_apart, cX5_apart, 4, (some .int), false, B5_apart_0) := ⟨rfl, rfl, by decide, am_cw_X5_apart, by decide, ⟨by decide, by decide⟩, fun h => (by cases h), fun h => absurd h (by decide), vB5_apart_0, rfl⟩
theorem am_g_134 : am_gd 134 (5, yX5_drop, cX5_drop, 1, (some .int), false, B5_drop_0) := ⟨rfl, rfl, by decide, am_cw_X5_drop, by decide, ⟨by decide, by decide⟩, fun h => (by cases h), fun h => absurd h (by decide), vB5_drop_0, rfl⟩
theorem am_g_135 : am_gd 135 (5, yX5_store, cX5_store, 2, (some .int), false, B5_store_0) := ⟨rfl, rfl, by decide, am_cw_X5_store, by decide, ⟨by decide, by decide⟩, fun h => (by cases h), fun h => absurd h (by decide), vB5_store_0, rfl⟩
theorem am_g_136 : am_gd 136 (5, yX5_load, cX5_load, 3, (some .int), false, B5_load_0) := ⟨rfl, rfl, by decide, am_cw_X5_load, by decide, ⟨by decide, by decide⟩, fun h => (by cases h), fun h => absurd h (by decide), vB5_load_0, rfl⟩
theorem am_g_137 : am_gd 137 (5, yX5_set, cX5_set, 4, (some .int), false, B5_set_0) := ⟨rfl, rfl, by decide, am_cw_X5_set, by decide, ⟨by decide, by decide⟩, fun h => (by cases h), fun h => absurd h (by decide), vB5_set_0, rfl⟩
theorem am_g_138 : am_gd 138 (5, yX5_swap, cX5_swap, 4, (some .int), false, B5_swap_0) := ⟨rfl, rfl, by decide, am_cw_X5_swap, by decide, ⟨by decide, by decide⟩, fun h => (by cases h), fun h => absurd h (by decide), vB5_swap_0, rfl⟩
theorem am_g_139 : am_gd 139 (5, yX5_push, cX5_push, 4, (some .int), false, B5_push_0) := ⟨rfl, rfl, by decide, am_cw_X5_push, by decide, ⟨by decide, by decide⟩, fun h => (by cases h), fun h => absurd h (by decide), vB5_push_0, rfl⟩
theorem am_g_140 : am_gd 140 (5, yX5_pop, cX5_pop, 6, (some .int), false, B5_pop_0) := ⟨rfl, rfl, by decide, am_cw_X5_pop, by decide, ⟨by decide, by decide⟩, fun h => (by cases h), fun h => absurd h (by decide), vB5_pop_0, rfl⟩
theorem am_g_141 : am_gd 141 (5, yX5_enter, cX5_enter, 3, (some .int), false, B5_enter_0) := ⟨rfl, rfl, by decide, am_cw_X5_enter, by decide, ⟨by decide, by decide⟩, fun h => (by cases h), fun h => absurd h (by decide), vB5_enter_0, rfl⟩
theorem am_g_142 : am_gd 142 (5, yX5_empty, cX5_empty, 2, none, false, B5_empty_0) := ⟨rfl, rfl, by decide, am_cw_X5_empty, by decide, ⟨by decide, by decide⟩, fun h => (by cases h), fun h => absurd h (by decide), vB5_empty_0, rfl⟩
theorem am_g_143 : am_gd 143 (5, yX5_leave, cX5_leave, 4, (some .int), false, B5_leave_0) := ⟨rfl, rfl, by decide, am_cw_X5_leave, by decide, ⟨by decide, by decide⟩, fun h => (by cases h), fun h => absurd h (by decide), vB5_leave_0, rfl⟩
theorem am_g_144 : am_gd 144 (5, yX5_fail, cX5_fail, 2, (some .int), false, B5_fail_0) := ⟨rfl, rfl, by decide, am_cw_X5_fail, by decide, ⟨by decide, by decide⟩, fun h => (by cases h), fun h => absurd h (by decide), vB5_fail_0, rfl⟩
theorem am_g_145 : am_gd 145 (5, yX5_shape, cX5_shape, 4, (some .int), false, B5_shape_0) := ⟨rfl, rfl, by decide, am_cw_X5_shape, by decide, ⟨by decide, by decide⟩, fun h => (by cases h), fun h => absurd h (by decide), vB5_shape_0, rfl⟩
theorem am_g_146 : am_gd 146 (5, yX5_look, cX5_look, 4, (some .long), false, B5_look_0) := ⟨rfl, rfl, by decide, am_cw_X5_look, by decide, ⟨by decide, by decide⟩, fun h => (by cases h), fun h => absurd h (by decide), vB5_look_0, rfl⟩
theorem am_g_147 : am_gd 147 (5, yX5_state, cX5_state, 4, (some .int), false, B5_state_0) := ⟨rfl, rfl, by decide, am_cw_X5_state, by decide, ⟨by decide, by decide⟩, fun h => (by cases h), fun h => absurd h (by decide), vB5_state_0, rfl⟩
theorem am_g_148 : am_gd 148 (5, yX5_out, cX5_out, 2, (some .long), false, B5_out_0) := ⟨rfl, rfl, by decide, am_cw_X5_out, by decide, ⟨by decide, by decide⟩, fun h => (by cases h), fun h => absurd h (by decide), vB5_out_0, rfl⟩
theorem am_g_149 : am_gd 149 (5, yX5_count, cX5_count, 4, (some .int), false, B5_count_0) := ⟨rfl, rfl, by decide, am_cw_X5_count, by decide, ⟨by decide, by decide⟩, fun h => (by cases h), fun h => absurd h (by decide), vB5_count_0, rfl⟩
def am_ag : Nat → List am_Q → Prop
  | _, [] => True
  | j, q :: r => am_gd j q ∧ am_ag (j + 1) r
theorem am_ag_at : ∀ (l : List am_Q) (i : Nat), am_ag i l → ∀ (j : Nat) (q : am_Q), l[j]? = some q → am_gd (i + j) q
  | [], _, _, j, q, h => by simp at h
  | x :: r, i, ha, 0, q, h => by simp at h; subst h; exact ha.1
  | x :: r, i, ha, j + 1, q, h => by rw [show i + (j + 1) = i + 1 + j by omega]; exact am_ag_at r (i + 1) ha.2 j q (by simpa using h)
theorem am_ag_app : ∀ (l r : List am_Q) (i : Nat), am_ag i l → am_ag (i + l.length) r → am_ag i (l ++ r)
  | [], r, i, _, h => by simpa using h
  | x :: l, r, i, h1, h2 => ⟨h1.1, am_ag_app l r (i + 1) h1.2 (by rw [show i + 1 + l.length = i + (x :: l).length by simp; omega]; exact h2)⟩
set_option maxRecDepth 100000 in
theorem am_ms_ag : am_ag 0 am_ms := ⟨am_g_0, am_g_1, am_g_2, am_g_3, am_g_4, am_g_5, am_g_6, am_g_7, am_g_8, am_g_9, am_g_10, am_g_11, am_g_12, am_g_13, am_g_14, am_g_15, am_g_16, am_g_17, am_g_18, am_g_19, am_g_20, am_g_21, am_g_22, am_g_23, am_g_24, am_g_25, am_g_26, am_g_27, am_g_28, am_g_29, am_g_30, am_g_31, am_g_32, am_g_33, am_g_34, am_g_35, am_g_36, am_g_37, am_g_38, am_g_39, am_g_40, am_g_41, am_g_42, am_g_43, am_g_44, am_g_45, am_g_46, am_g_47, am_g_48, am_g_49, am_g_50, am_g_51, am_g_52, am_g_53, am_g_54, am_g_55, am_g_56, am_g_57, am_g_58, am_g_59, am_g_60, am_g_61, am_g_62, am_g_63, am_g_64, am_g_65, am_g_66, am_g_67, am_g_68, am_g_69, am_g_70, am_g_71, am_g_72, am_g_73, am_g_74, am_g_75, am_g_76, am_g_77, am_g_78, am_g_79, am_g_80, am_g_81, am_g_82, am_g_83, am_g_84, am_g_85, am_g_86, am_g_87, am_g_88, am_g_89, am_g_90, am_g_91, am_g_92, am_g_93, am_g_94, am_g_95, am_g_96, am_g_97, am_g_98, am_g_99, am_g_100, am_g_101, am_g_102, am_g_103, am_g_104, am_g_105, am_g_106, am_g_107, am_g_108, am_g_109, am_g_110, am_g_111, am_g_112, am_g_113, am_g_114, am_g_115, am_g_116, am_g_117, am_g_118, am_g_119, am_g_120, am_g_121, am_g_122, am_g_123, am_g_124, am_g_125, am_g_126, am_g_127, am_g_128, am_g_129, am_g_130, am_g_131, am_g_132, am_g_133, am_g_134, am_g_135, am_g_136, am_g_137, am_g_138, am_g_139, am_g_140, am_g_141, am_g_142, am_g_143, am_g_144, am_g_145, am_g_146, am_g_147, am_g_148, am_g_149, trivial⟩
theorem am_ms_ok (j : Nat) (q : am_Q) (h : am_ms[j]? = some q) : am_gd j q := by
  have h1 := am_ag_at am_ms 0 am_ms_ag j q h
  rwa [Nat.zero_add] at h1
noncomputable def ev : Nat → am_F := am_ev am_ms
end
