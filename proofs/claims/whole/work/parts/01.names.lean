-- ===== PART A: goes FIRST, ahead of the names: the tables' words, and 'selects' of the private methods out of them =====
/-- a private method of a class that the tables say can be made, by its rows of tables_1 -/
def lw_okq (q : MethodName × Nat) : Prop := (q.1.cls ≠ "java/lang/invoke/MethodHandle" ∧ q.1.cls ≠ "java/lang/invoke/VarHandle") ∧ Cond.instantiable q.1.cls q.2 ∈ tables_1 ∧ Cond.privateMethod q.1 ∈ tables_1 ∧ Cond.instanceMethod q.1 ∈ tables_1
theorem lw_p0 : lw_okq (⟨"CellYard", "layOneCell", "(IJ)I"⟩, 6) := ⟨⟨by decide +kernel, by decide +kernel⟩, List.mem_of_getElem? (i := 10) (by decide +kernel), List.mem_of_getElem? (i := 197) (by decide +kernel), List.mem_of_getElem? (i := 198) (by decide +kernel)⟩
theorem lw_p1 : lw_okq (⟨"CellYard", "topAt", "()I"⟩, 6) := ⟨⟨by decide +kernel, by decide +kernel⟩, List.mem_of_getElem? (i := 10) (by decide +kernel), List.mem_of_getElem? (i := 209) (by decide +kernel), List.mem_of_getElem? (i := 210) (by decide +kernel)⟩
theorem lw_p2 : lw_okq (⟨"CellYard", "makeRecord", "(I)I"⟩, 6) := ⟨⟨by decide +kernel, by decide +kernel⟩, List.mem_of_getElem? (i := 10) (by decide +kernel), List.mem_of_getElem? (i := 231) (by decide +kernel), List.mem_of_getElem? (i := 232) (by decide +kernel)⟩
theorem lw_p3 : lw_okq (⟨"CellYard", "handEndsWithFieldsOf", "(II)Z"⟩, 6) := ⟨⟨by decide +kernel, by decide +kernel⟩, List.mem_of_getElem? (i := 10) (by decide +kernel), List.mem_of_getElem? (i := 239) (by decide +kernel), List.mem_of_getElem? (i := 240) (by decide +kernel)⟩
theorem lw_p4 : lw_okq (⟨"CellYard", "makeChoice", "(II)I"⟩, 6) := ⟨⟨by decide +kernel, by decide +kernel⟩, List.mem_of_getElem? (i := 10) (by decide +kernel), List.mem_of_getElem? (i := 262) (by decide +kernel), List.mem_of_getElem? (i := 263) (by decide +kernel)⟩
theorem lw_p5 : lw_okq (⟨"CellYard", "replaceTopShape", "(I)V"⟩, 6) := ⟨⟨by decide +kernel, by decide +kernel⟩, List.mem_of_getElem? (i := 10) (by decide +kernel), List.mem_of_getElem? (i := 272) (by decide +kernel), List.mem_of_getElem? (i := 273) (by decide +kernel)⟩
theorem lw_p6 : lw_okq (⟨"CellYard", "makeBox", "(I)I"⟩, 6) := ⟨⟨by decide +kernel, by decide +kernel⟩, List.mem_of_getElem? (i := 10) (by decide +kernel), List.mem_of_getElem? (i := 276) (by decide +kernel), List.mem_of_getElem? (i := 277) (by decide +kernel)⟩
theorem lw_p7 : lw_okq (⟨"CellYard", "takeRecordApart", "(I)I"⟩, 6) := ⟨⟨by decide +kernel, by decide +kernel⟩, List.mem_of_getElem? (i := 10) (by decide +kernel), List.mem_of_getElem? (i := 339) (by decide +kernel), List.mem_of_getElem? (i := 340) (by decide +kernel)⟩
theorem lw_p8 : lw_okq (⟨"CellYard", "takeChoiceApart", "(I)I"⟩, 6) := ⟨⟨by decide +kernel, by decide +kernel⟩, List.mem_of_getElem? (i := 10) (by decide +kernel), List.mem_of_getElem? (i := 343) (by decide +kernel), List.mem_of_getElem? (i := 344) (by decide +kernel)⟩
theorem lw_p9 : lw_okq (⟨"CellYard$Dropping", "await", "(II)V"⟩, 7) := ⟨⟨by decide +kernel, by decide +kernel⟩, List.mem_of_getElem? (i := 91) (by decide +kernel), List.mem_of_getElem? (i := 355) (by decide +kernel), List.mem_of_getElem? (i := 356) (by decide +kernel)⟩
theorem lw_p10 : lw_okq (⟨"CellYard$Dropping", "dropOne", "(II)V"⟩, 7) := ⟨⟨by decide +kernel, by decide +kernel⟩, List.mem_of_getElem? (i := 91) (by decide +kernel), List.mem_of_getElem? (i := 360) (by decide +kernel), List.mem_of_getElem? (i := 361) (by decide +kernel)⟩
theorem lw_p11 : lw_okq (⟨"CellYard$Dropping", "tell", "(J)V"⟩, 7) := ⟨⟨by decide +kernel, by decide +kernel⟩, List.mem_of_getElem? (i := 91) (by decide +kernel), List.mem_of_getElem? (i := 366) (by decide +kernel), List.mem_of_getElem? (i := 367) (by decide +kernel)⟩
theorem lw_p12 : lw_okq (⟨"CellYard$Dropping", "awaitFields", "(II)V"⟩, 7) := ⟨⟨by decide +kernel, by decide +kernel⟩, List.mem_of_getElem? (i := 91) (by decide +kernel), List.mem_of_getElem? (i := 370) (by decide +kernel), List.mem_of_getElem? (i := 371) (by decide +kernel)⟩
theorem lw_p13 : lw_okq (⟨"CellYard$Dropping", "awaitBoxed", "(IJ)V"⟩, 7) := ⟨⟨by decide +kernel, by decide +kernel⟩, List.mem_of_getElem? (i := 91) (by decide +kernel), List.mem_of_getElem? (i := 376) (by decide +kernel), List.mem_of_getElem? (i := 377) (by decide +kernel)⟩
theorem lw_p14 : lw_okq (⟨"CellYard$Dropping", "awaitElements", "(IJ)V"⟩, 7) := ⟨⟨by decide +kernel, by decide +kernel⟩, List.mem_of_getElem? (i := 91) (by decide +kernel), List.mem_of_getElem? (i := 382) (by decide +kernel), List.mem_of_getElem? (i := 383) (by decide +kernel)⟩
theorem lw_p15 : lw_okq (⟨"CellYard", "seek", "(II)I"⟩, 6) := ⟨⟨by decide +kernel, by decide +kernel⟩, List.mem_of_getElem? (i := 10) (by decide +kernel), List.mem_of_getElem? (i := 429) (by decide +kernel), List.mem_of_getElem? (i := 430) (by decide +kernel)⟩
def lw_privs_1 : List (MethodName × Nat) := [(⟨"CellYard", "layOneCell", "(IJ)I"⟩, 6), (⟨"CellYard", "topAt", "()I"⟩, 6), (⟨"CellYard", "makeRecord", "(I)I"⟩, 6), (⟨"CellYard", "handEndsWithFieldsOf", "(II)Z"⟩, 6), (⟨"CellYard", "makeChoice", "(II)I"⟩, 6), (⟨"CellYard", "replaceTopShape", "(I)V"⟩, 6), (⟨"CellYard", "makeBox", "(I)I"⟩, 6), (⟨"CellYard", "takeRecordApart", "(I)I"⟩, 6), (⟨"CellYard", "takeChoiceApart", "(I)I"⟩, 6), (⟨"CellYard$Dropping", "await", "(II)V"⟩, 7), (⟨"CellYard$Dropping", "dropOne", "(II)V"⟩, 7), (⟨"CellYard$Dropping", "tell", "(J)V"⟩, 7), (⟨"CellYard$Dropping", "awaitFields", "(II)V"⟩, 7), (⟨"CellYard$Dropping", "awaitBoxed", "(IJ)V"⟩, 7), (⟨"CellYard$Dropping", "awaitElements", "(IJ)V"⟩, 7), (⟨"CellYard", "seek", "(II)I"⟩, 6)]
theorem lw_r1 : ∀ q ∈ lw_privs_1, lw_okq q := List.forall_mem_cons.mpr ⟨lw_p0, List.forall_mem_cons.mpr ⟨lw_p1, List.forall_mem_cons.mpr ⟨lw_p2, List.forall_mem_cons.mpr ⟨lw_p3, List.forall_mem_cons.mpr ⟨lw_p4, List.forall_mem_cons.mpr ⟨lw_p5, List.forall_mem_cons.mpr ⟨lw_p6, List.forall_mem_cons.mpr ⟨lw_p7, List.forall_mem_cons.mpr ⟨lw_p8, List.forall_mem_cons.mpr ⟨lw_p9, List.forall_mem_cons.mpr ⟨lw_p10, List.forall_mem_cons.mpr ⟨lw_p11, List.forall_mem_cons.mpr ⟨lw_p12, List.forall_mem_cons.mpr ⟨lw_p13, List.forall_mem_cons.mpr ⟨lw_p14, List.forall_mem_cons.mpr ⟨lw_p15, fun _ h => absurd h List.not_mem_nil⟩⟩⟩⟩⟩⟩⟩⟩⟩⟩⟩⟩⟩⟩⟩⟩
theorem lw_p16 : lw_okq (⟨"CellYard", "step", "(II)I"⟩, 6) := ⟨⟨by decide +kernel, by decide +kernel⟩, List.mem_of_getElem? (i := 10) (by decide +kernel), List.mem_of_getElem? (i := 434) (by decide +kernel), List.mem_of_getElem? (i := 435) (by decide +kernel)⟩
theorem lw_p17 : lw_okq (⟨"CellYard", "stepToField", "(II)I"⟩, 6) := ⟨⟨by decide +kernel, by decide +kernel⟩, List.mem_of_getElem? (i := 10) (by decide +kernel), List.mem_of_getElem? (i := 438) (by decide +kernel), List.mem_of_getElem? (i := 439) (by decide +kernel)⟩
theorem lw_p18 : lw_okq (⟨"CellYard", "stepToPart", "(I)I"⟩, 6) := ⟨⟨by decide +kernel, by decide +kernel⟩, List.mem_of_getElem? (i := 10) (by decide +kernel), List.mem_of_getElem? (i := 447) (by decide +kernel), List.mem_of_getElem? (i := 448) (by decide +kernel)⟩
theorem lw_p19 : lw_okq (⟨"CellYard", "stepIntoBox", "(I)I"⟩, 6) := ⟨⟨by decide +kernel, by decide +kernel⟩, List.mem_of_getElem? (i := 10) (by decide +kernel), List.mem_of_getElem? (i := 451) (by decide +kernel), List.mem_of_getElem? (i := 452) (by decide +kernel)⟩
theorem lw_p20 : lw_okq (⟨"CellYard", "stepToElement", "(II)I"⟩, 6) := ⟨⟨by decide +kernel, by decide +kernel⟩, List.mem_of_getElem? (i := 10) (by decide +kernel), List.mem_of_getElem? (i := 455) (by decide +kernel), List.mem_of_getElem? (i := 456) (by decide +kernel)⟩
theorem lw_p21 : lw_okq (⟨"CellYard", "endLastFrame", "(I)V"⟩, 6) := ⟨⟨by decide +kernel, by decide +kernel⟩, List.mem_of_getElem? (i := 10) (by decide +kernel), List.mem_of_getElem? (i := 496) (by decide +kernel), List.mem_of_getElem? (i := 497) (by decide +kernel)⟩
theorem lw_p22 : lw_okq (⟨"CellYardModel", "isShape", "(I)Z"⟩, 23) := ⟨⟨by decide +kernel, by decide +kernel⟩, List.mem_of_getElem? (i := 548) (by decide +kernel), List.mem_of_getElem? (i := 628) (by decide +kernel), List.mem_of_getElem? (i := 629) (by decide +kernel)⟩
theorem lw_p23 : lw_okq (⟨"CellYardModel", "sizeOf", "(I)I"⟩, 23) := ⟨⟨by decide +kernel, by decide +kernel⟩, List.mem_of_getElem? (i := 548) (by decide +kernel), List.mem_of_getElem? (i := 635) (by decide +kernel), List.mem_of_getElem? (i := 636) (by decide +kernel)⟩
theorem lw_p24 : lw_okq (⟨"CellYardModel", "come", "(IIIII)I"⟩, 23) := ⟨⟨by decide +kernel, by decide +kernel⟩, List.mem_of_getElem? (i := 548) (by decide +kernel), List.mem_of_getElem? (i := 639) (by decide +kernel), List.mem_of_getElem? (i := 640) (by decide +kernel)⟩
theorem lw_p25 : lw_okq (⟨"CellYardModel", "node", "(IJ)I"⟩, 23) := ⟨⟨by decide +kernel, by decide +kernel⟩, List.mem_of_getElem? (i := 548) (by decide +kernel), List.mem_of_getElem? (i := 668) (by decide +kernel), List.mem_of_getElem? (i := 669) (by decide +kernel)⟩
theorem lw_p26 : lw_okq (⟨"CellYardModel", "grow", "()V"⟩, 23) := ⟨⟨by decide +kernel, by decide +kernel⟩, List.mem_of_getElem? (i := 548) (by decide +kernel), List.mem_of_getElem? (i := 672) (by decide +kernel), List.mem_of_getElem? (i := 673) (by decide +kernel)⟩
theorem lw_p27 : lw_okq (⟨"CellYardModel", "comes", "(I)I"⟩, 23) := ⟨⟨by decide +kernel, by decide +kernel⟩, List.mem_of_getElem? (i := 548) (by decide +kernel), List.mem_of_getElem? (i := 676) (by decide +kernel), List.mem_of_getElem? (i := 677) (by decide +kernel)⟩
theorem lw_p28 : lw_okq (⟨"CellYardModel", "parts", "(I)I"⟩, 23) := ⟨⟨by decide +kernel, by decide +kernel⟩, List.mem_of_getElem? (i := 548) (by decide +kernel), List.mem_of_getElem? (i := 684) (by decide +kernel), List.mem_of_getElem? (i := 685) (by decide +kernel)⟩
theorem lw_p29 : lw_okq (⟨"CellYardModel", "mine", "()I"⟩, 23) := ⟨⟨by decide +kernel, by decide +kernel⟩, List.mem_of_getElem? (i := 548) (by decide +kernel), List.mem_of_getElem? (i := 688) (by decide +kernel), List.mem_of_getElem? (i := 689) (by decide +kernel)⟩
theorem lw_p30 : lw_okq (⟨"CellYardModel", "top", "(I)I"⟩, 23) := ⟨⟨by decide +kernel, by decide +kernel⟩, List.mem_of_getElem? (i := 548) (by decide +kernel), List.mem_of_getElem? (i := 692) (by decide +kernel), List.mem_of_getElem? (i := 693) (by decide +kernel)⟩
theorem lw_p31 : lw_okq (⟨"CellYardModel", "wrap", "(IJI)I"⟩, 23) := ⟨⟨by decide +kernel, by decide +kernel⟩, List.mem_of_getElem? (i := 548) (by decide +kernel), List.mem_of_getElem? (i := 696) (by decide +kernel), List.mem_of_getElem? (i := 697) (by decide +kernel)⟩
def lw_privs_2 : List (MethodName × Nat) := [(⟨"CellYard", "step", "(II)I"⟩, 6), (⟨"CellYard", "stepToField", "(II)I"⟩, 6), (⟨"CellYard", "stepToPart", "(I)I"⟩, 6), (⟨"CellYard", "stepIntoBox", "(I)I"⟩, 6), (⟨"CellYard", "stepToElement", "(II)I"⟩, 6), (⟨"CellYard", "endLastFrame", "(I)V"⟩, 6), (⟨"CellYardModel", "isShape", "(I)Z"⟩, 23), (⟨"CellYardModel", "sizeOf", "(I)I"⟩, 23), (⟨"CellYardModel", "come", "(IIIII)I"⟩, 23), (⟨"CellYardModel", "node", "(IJ)I"⟩, 23), (⟨"CellYardModel", "grow", "()V"⟩, 23), (⟨"CellYardModel", "comes", "(I)I"⟩, 23), (⟨"CellYardModel", "parts", "(I)I"⟩, 23), (⟨"CellYardModel", "mine", "()I"⟩, 23), (⟨"CellYardModel", "top", "(I)I"⟩, 23), (⟨"CellYardModel", "wrap", "(IJI)I"⟩, 23)]
theorem lw_r2 : ∀ q ∈ lw_privs_2, lw_okq q := List.forall_mem_cons.mpr ⟨lw_p16, List.forall_mem_cons.mpr ⟨lw_p17, List.forall_mem_cons.mpr ⟨lw_p18, List.forall_mem_cons.mpr ⟨lw_p19, List.forall_mem_cons.mpr ⟨lw_p20, List.forall_mem_cons.mpr ⟨lw_p21, List.forall_mem_cons.mpr ⟨lw_p22, List.forall_mem_cons.mpr ⟨lw_p23, List.forall_mem_cons.mpr ⟨lw_p24, List.forall_mem_cons.mpr ⟨lw_p25, List.forall_mem_cons.mpr ⟨lw_p26, List.forall_mem_cons.mpr ⟨lw_p27, List.forall_mem_cons.mpr ⟨lw_p28, List.forall_mem_cons.mpr ⟨lw_p29, List.forall_mem_cons.mpr ⟨lw_p30, List.forall_mem_cons.mpr ⟨lw_p31, fun _ h => absurd h List.not_mem_nil⟩⟩⟩⟩⟩⟩⟩⟩⟩⟩⟩⟩⟩⟩⟩⟩
theorem lw_p32 : lw_okq (⟨"CellYardModel", "kindOf", "(I)I"⟩, 23) := ⟨⟨by decide +kernel, by decide +kernel⟩, List.mem_of_getElem? (i := 548) (by decide +kernel), List.mem_of_getElem? (i := 708) (by decide +kernel), List.mem_of_getElem? (i := 709) (by decide +kernel)⟩
theorem lw_p33 : lw_okq (⟨"CellYardModel", "free", "(I)V"⟩, 23) := ⟨⟨by decide +kernel, by decide +kernel⟩, List.mem_of_getElem? (i := 548) (by decide +kernel), List.mem_of_getElem? (i := 712) (by decide +kernel), List.mem_of_getElem? (i := 713) (by decide +kernel)⟩
theorem lw_p34 : lw_okq (⟨"CellYardModel", "dropped", "(I)V"⟩, 23) := ⟨⟨by decide +kernel, by decide +kernel⟩, List.mem_of_getElem? (i := 548) (by decide +kernel), List.mem_of_getElem? (i := 724) (by decide +kernel), List.mem_of_getElem? (i := 725) (by decide +kernel)⟩
theorem lw_p35 : lw_okq (⟨"CellYardModel", "slot", "(I)I"⟩, 23) := ⟨⟨by decide +kernel, by decide +kernel⟩, List.mem_of_getElem? (i := 548) (by decide +kernel), List.mem_of_getElem? (i := 732) (by decide +kernel), List.mem_of_getElem? (i := 733) (by decide +kernel)⟩
theorem lw_p36 : lw_okq (⟨"CellYardModel", "find", "(II)I"⟩, 23) := ⟨⟨by decide +kernel, by decide +kernel⟩, List.mem_of_getElem? (i := 548) (by decide +kernel), List.mem_of_getElem? (i := 744) (by decide +kernel), List.mem_of_getElem? (i := 745) (by decide +kernel)⟩
theorem lw_p37 : lw_okq (⟨"CellYardModel", "put", "(I)V"⟩, 23) := ⟨⟨by decide +kernel, by decide +kernel⟩, List.mem_of_getElem? (i := 548) (by decide +kernel), List.mem_of_getElem? (i := 749) (by decide +kernel), List.mem_of_getElem? (i := 750) (by decide +kernel)⟩
theorem lw_p38 : lw_okq (⟨"CellYardModel", "empty", "()V"⟩, 23) := ⟨⟨by decide +kernel, by decide +kernel⟩, List.mem_of_getElem? (i := 548) (by decide +kernel), List.mem_of_getElem? (i := 774) (by decide +kernel), List.mem_of_getElem? (i := 775) (by decide +kernel)⟩
def lw_privs_3 : List (MethodName × Nat) := [(⟨"CellYardModel", "kindOf", "(I)I"⟩, 23), (⟨"CellYardModel", "free", "(I)V"⟩, 23), (⟨"CellYardModel", "dropped", "(I)V"⟩, 23), (⟨"CellYardModel", "slot", "(I)I"⟩, 23), (⟨"CellYardModel", "find", "(II)I"⟩, 23), (⟨"CellYardModel", "put", "(I)V"⟩, 23), (⟨"CellYardModel", "empty", "()V"⟩, 23)]
theorem lw_r3 : ∀ q ∈ lw_privs_3, lw_okq q := List.forall_mem_cons.mpr ⟨lw_p32, List.forall_mem_cons.mpr ⟨lw_p33, List.forall_mem_cons.mpr ⟨lw_p34, List.forall_mem_cons.mpr ⟨lw_p35, List.forall_mem_cons.mpr ⟨lw_p36, List.forall_mem_cons.mpr ⟨lw_p37, List.forall_mem_cons.mpr ⟨lw_p38, fun _ h => absurd h List.not_mem_nil⟩⟩⟩⟩⟩⟩⟩
def lw_privs : List (MethodName × Nat) := lw_privs_1 ++ (lw_privs_2 ++ (lw_privs_3))
def lw_tbl : List Cond := k2_sels lw_privs ++ tables_1
theorem lw_privs_ok : ∀ q ∈ lw_privs, lw_okq q := by
  show ∀ q ∈ lw_privs_1 ++ (lw_privs_2 ++ (lw_privs_3)), lw_okq q
  exact List.forall_mem_append.mpr ⟨lw_r1, List.forall_mem_append.mpr ⟨lw_r2, lw_r3⟩⟩
def RX0 : String := "CellYard$Dropping"
def TX0 : u_T := fun k => match k with
  | 0 => ("CellYard$Dropping", "shapes", "LCellYard$Shapes;", true)
  | 1 => ("CellYard$Dropping", "ground", "LCellYard$Ground;", true)
  | 2 => ("CellYard$Dropping", "waiting", "[I", true)
  | 3 => ("CellYard$Dropping", "outs", "[J", true)
  | 4 => ("CellYard$Dropping", "waits", "I", false)
  | 5 => ("CellYard$Dropping", "outCount", "I", false)
  | _ => ("CellYard$Dropping", "dropped", "I", false)
def tyX0 : Nat → FieldType := fun k => match k with
  | 0 => .object "CellYard$Shapes"
  | 1 => .object "CellYard$Ground"
  | 2 => .array .int
  | 3 => .array .long
  | 4 => .int
  | 5 => .int
  | _ => .int
abbrev wsX00 : List Cond := u_ws RX0 TX0 7
theorem nmX0 : ∀ a, a < 7 → ∀ b, b < 7 → a ≠ b → (TX0 a).2.1 ≠ (TX0 b).2.1 := by decide +kernel
theorem tyX0_ok : ∀ k, k < 7 → parseFieldDescriptor (TX0 k).2.2.1 = some (tyX0 k) := by decide +kernel
abbrev cX0_init : ByteArray := prog_2_method_1_code
def yX0_init : MethodName := ⟨RX0, "<init>", "(LCellYard$Shapes;LCellYard$Ground;)V"⟩
abbrev cX0_toldDropped : ByteArray := prog_2_method_2_code
def yX0_toldDropped : MethodName := ⟨RX0, "toldDropped", "()I"⟩
abbrev cX0_outLength : ByteArray := prog_2_method_3_code
def yX0_outLength : MethodName := ⟨RX0, "outLength", "()I"⟩
abbrev cX0_toldAs : ByteArray := prog_2_method_4_code
def yX0_toldAs : MethodName := ⟨RX0, "toldAs", "(I)J"⟩
abbrev cX0_dropValue : ByteArray := prog_2_method_5_code
def yX0_dropValue : MethodName := ⟨RX0, "dropValue", "(II)V"⟩
abbrev cX0_await : ByteArray := prog_2_method_6_code
def yX0_await : MethodName := ⟨RX0, "await", "(II)V"⟩
abbrev cX0_dropOne : ByteArray := prog_2_method_7_code
def yX0_dropOne : MethodName := ⟨RX0, "dropOne", "(II)V"⟩
abbrev cX0_tell : ByteArray := prog_2_method_8_code
def yX0_tell : MethodName := ⟨RX0, "tell", "(J)V"⟩
abbrev cX0_awaitFields : ByteArray := prog_2_method_9_code
def yX0_awaitFields : MethodName := ⟨RX0, "awaitFields", "(II)V"⟩
abbrev cX0_awaitBoxed : ByteArray := prog_2_method_10_code
def yX0_awaitBoxed : MethodName := ⟨RX0, "awaitBoxed", "(IJ)V"⟩
abbrev cX0_awaitElements : ByteArray := prog_2_method_11_code
def yX0_awaitElements : MethodName := ⟨RX0, "awaitElements", "(IJ)V"⟩
def RX1 : String := "CellYard$Frames"
def TX1 : u_T := fun k => match k with
  | 0 => ("CellYard$Frames", "handShapes", "[I", true)
  | 1 => ("CellYard$Frames", "handStarts", "[I", true)
  | 2 => ("CellYard$Frames", "slotShapes", "[I", true)
  | 3 => ("CellYard$Frames", "inHand", "I", false)
  | _ => ("CellYard$Frames", "there", "I", false)
def tyX1 : Nat → FieldType := fun k => match k with
  | 0 => .array .int
  | 1 => .array .int
  | 2 => .array .int
  | 3 => .int
  | _ => .int
abbrev wsX10 : List Cond := u_ws RX1 TX1 5
theorem nmX1 : ∀ a, a < 5 → ∀ b, b < 5 → a ≠ b → (TX1 a).2.1 ≠ (TX1 b).2.1 := by decide +kernel
theorem tyX1_ok : ∀ k, k < 5 → parseFieldDescriptor (TX1 k).2.2.1 = some (tyX1 k) := by decide +kernel
abbrev cX1_init : ByteArray := prog_3_method_1_code
def yX1_init : MethodName := ⟨RX1, "<init>", "()V"⟩
abbrev cX1_frameCount : ByteArray := prog_3_method_2_code
def yX1_frameCount : MethodName := ⟨RX1, "frameCount", "()I"⟩
abbrev cX1_lastFrame : ByteArray := prog_3_method_3_code
def yX1_lastFrame : MethodName := ⟨RX1, "lastFrame", "()I"⟩
abbrev cX1_addFrame : ByteArray := prog_3_method_4_code
def yX1_addFrame : MethodName := ⟨RX1, "addFrame", "()V"⟩
abbrev cX1_removeFrame : ByteArray := prog_3_method_5_code
def yX1_removeFrame : MethodName := ⟨RX1, "removeFrame", "()V"⟩
abbrev cX1_handCount : ByteArray := prog_3_method_6_code
def yX1_handCount : MethodName := ⟨RX1, "handCount", "()I"⟩
abbrev cX1_handOfLast : ByteArray := prog_3_method_7_code
def yX1_handOfLast : MethodName := ⟨RX1, "handOfLast", "()I"⟩
abbrev cX1_handHasRoomFor : ByteArray := prog_3_method_8_code
def yX1_handHasRoomFor : MethodName := ⟨RX1, "handHasRoomFor", "(I)Z"⟩
abbrev cX1_handShape : ByteArray := prog_3_method_9_code
def yX1_handShape : MethodName := ⟨RX1, "handShape", "(I)I"⟩
abbrev cX1_topShape : ByteArray := prog_3_method_10_code
def yX1_topShape : MethodName := ⟨RX1, "topShape", "()I"⟩
abbrev cX1_handEndsWith : ByteArray := prog_3_method_11_code
def yX1_handEndsWith : MethodName := ⟨RX1, "handEndsWith", "(II)Z"⟩
abbrev cX1_layOn : ByteArray := prog_3_method_12_code
def yX1_layOn : MethodName := ⟨RX1, "layOn", "(I)V"⟩
abbrev cX1_takeOff : ByteArray := prog_3_method_13_code
def yX1_takeOff : MethodName := ⟨RX1, "takeOff", "(I)V"⟩
abbrev cX1_slotShape : ByteArray := prog_3_method_14_code
def yX1_slotShape : MethodName := ⟨RX1, "slotShape", "(II)I"⟩
abbrev cX1_fillSlot : ByteArray := prog_3_method_15_code
def yX1_fillSlot : MethodName := ⟨RX1, "fillSlot", "(III)V"⟩
abbrev cX1_hasSlot : ByteArray := prog_3_method_16_code
def yX1_hasSlot : MethodName := ⟨RX1, "hasSlot", "(II)Z"⟩
abbrev cX1_filledSlots : ByteArray := prog_3_method_17_code
def yX1_filledSlots : MethodName := ⟨RX1, "filledSlots", "()I"⟩
def RX2 : String := "CellYard$Ground"
def TX2 : u_T := fun k => match k with
  | 0 => ("CellYard$Ground", "cells", "[J", true)
  | 1 => ("CellYard$Ground", "boxTaken", "[Z", true)
  | 2 => ("CellYard$Ground", "rowTaken", "[Z", true)
  | 3 => ("CellYard$Ground", "rowLengths", "[I", true)
  | 4 => ("CellYard$Ground", "boxes", "I", false)
  | _ => ("CellYard$Ground", "rows", "I", false)
def tyX2 : Nat → FieldType := fun k => match k with
  | 0 => .array .long
  | 1 => .array .boolean
  | 2 => .array .boolean
  | 3 => .array .int
  | 4 => .int
  | _ => .int
abbrev wsX20 : List Cond := u_ws RX2 TX2 6
theorem nmX2 : ∀ a, a < 6 → ∀ b, b < 6 → a ≠ b → (TX2 a).2.1 ≠ (TX2 b).2.1 := by decide +kernel
theorem tyX2_ok : ∀ k, k < 6 → parseFieldDescriptor (TX2 k).2.2.1 = some (tyX2 k) := by decide +kernel
abbrev cX2_init : ByteArray := prog_4_method_1_code
def yX2_init : MethodName := ⟨RX2, "<init>", "()V"⟩
abbrev cX2_read : ByteArray := prog_4_method_2_code
def yX2_read : MethodName := ⟨RX2, "read", "(I)J"⟩
abbrev cX2_write : ByteArray := prog_4_method_3_code
def yX2_write : MethodName := ⟨RX2, "write", "(IJ)V"⟩
abbrev cX2_moveCells : ByteArray := prog_4_method_4_code
def yX2_moveCells : MethodName := ⟨RX2, "moveCells", "(III)V"⟩
abbrev cX2_swapCells : ByteArray := prog_4_method_5_code
def yX2_swapCells : MethodName := ⟨RX2, "swapCells", "(III)V"⟩
abbrev cX2_areCells : ByteArray := prog_4_method_6_code
def yX2_areCells : MethodName := ⟨RX2, "areCells", "(II)Z"⟩
abbrev cX2_boxesThere : ByteArray := prog_4_method_7_code
def yX2_boxesThere : MethodName := ⟨RX2, "boxesThere", "()I"⟩
abbrev cX2_rowsThere : ByteArray := prog_4_method_8_code
def yX2_rowsThere : MethodName := ⟨RX2, "rowsThere", "()I"⟩
abbrev cX2_takeBox : ByteArray := prog_4_method_9_code
def yX2_takeBox : MethodName := ⟨RX2, "takeBox", "()I"⟩
abbrev cX2_takeRow : ByteArray := prog_4_method_10_code
def yX2_takeRow : MethodName := ⟨RX2, "takeRow", "(I)I"⟩
abbrev cX2_firstFree : ByteArray := prog_4_method_11_code
def yX2_firstFree : MethodName := ⟨RX2, "firstFree", "([Z)I"⟩
abbrev cX2_freeBox : ByteArray := prog_4_method_12_code
def yX2_freeBox : MethodName := ⟨RX2, "freeBox", "(J)V"⟩
abbrev cX2_freeRow : ByteArray := prog_4_method_13_code
def yX2_freeRow : MethodName := ⟨RX2, "freeRow", "(J)V"⟩
abbrev cX2_isBox : ByteArray := prog_4_method_14_code
def yX2_isBox : MethodName := ⟨RX2, "isBox", "(J)Z"⟩
abbrev cX2_isRow : ByteArray := prog_4_method_15_code
def yX2_isRow : MethodName := ⟨RX2, "isRow", "(J)Z"⟩
abbrev cX2_boxAt : ByteArray := prog_4_method_16_code
def yX2_boxAt : MethodName := ⟨RX2, "boxAt", "(J)I"⟩
abbrev cX2_elementAt : ByteArray := prog_4_method_17_code
def yX2_elementAt : MethodName := ⟨RX2, "elementAt", "(JI)I"⟩
abbrev cX2_lengthOf : ByteArray := prog_4_method_18_code
def yX2_lengthOf : MethodName := ⟨RX2, "lengthOf", "(J)I"⟩
abbrev cX2_setLength : ByteArray := prog_4_method_19_code
def yX2_setLength : MethodName := ⟨RX2, "setLength", "(JI)V"⟩
def RX3 : String := "CellYard$Shapes"
def TX3 : u_T := fun k => match k with
  | 0 => ("CellYard$Shapes", "kinds", "[I", true)
  | 1 => ("CellYard$Shapes", "sizes", "[I", true)
  | 2 => ("CellYard$Shapes", "parts", "[I", true)
  | _ => ("CellYard$Shapes", "known", "I", false)
def tyX3 : Nat → FieldType := fun k => match k with
  | 0 => .array .int
  | 1 => .array .int
  | 2 => .array .int
  | _ => .int
abbrev wsX30 : List Cond := u_ws RX3 TX3 4
theorem nmX3 : ∀ a, a < 4 → ∀ b, b < 4 → a ≠ b → (TX3 a).2.1 ≠ (TX3 b).2.1 := by decide +kernel
theorem tyX3_ok : ∀ k, k < 4 → parseFieldDescriptor (TX3 k).2.2.1 = some (tyX3 k) := by decide +kernel
abbrev cX3_init : ByteArray := prog_5_method_1_code
def yX3_init : MethodName := ⟨RX3, "<init>", "()V"⟩
abbrev cX3_add : ByteArray := prog_5_method_2_code
def yX3_add : MethodName := ⟨RX3, "add", "(IIIII)I"⟩
abbrev cX3_tieLooseBox : ByteArray := prog_5_method_3_code
def yX3_tieLooseBox : MethodName := ⟨RX3, "tieLooseBox", "(II)Z"⟩
abbrev cX3_howMany : ByteArray := prog_5_method_4_code
def yX3_howMany : MethodName := ⟨RX3, "howMany", "()I"⟩
abbrev cX3_has : ByteArray := prog_5_method_5_code
def yX3_has : MethodName := ⟨RX3, "has", "(I)Z"⟩
abbrev cX3_hasOrNone : ByteArray := prog_5_method_6_code
def yX3_hasOrNone : MethodName := ⟨RX3, "hasOrNone", "(I)Z"⟩
abbrev cX3_kindOf : ByteArray := prog_5_method_7_code
def yX3_kindOf : MethodName := ⟨RX3, "kindOf", "(I)I"⟩
abbrev cX3_sizeOf : ByteArray := prog_5_method_8_code
def yX3_sizeOf : MethodName := ⟨RX3, "sizeOf", "(I)I"⟩
abbrev cX3_partOf : ByteArray := prog_5_method_9_code
def yX3_partOf : MethodName := ⟨RX3, "partOf", "(II)I"⟩
abbrev cX3_partsOf : ByteArray := prog_5_method_10_code
def yX3_partsOf : MethodName := ⟨RX3, "partsOf", "(I)I"⟩
abbrev cX3_offsetOf : ByteArray := prog_5_method_11_code
def yX3_offsetOf : MethodName := ⟨RX3, "offsetOf", "(II)I"⟩
def RX4 : String := "CellYard"
def TX4 : u_T := fun k => match k with
  | 0 => ("CellYard", "shapes", "LCellYard$Shapes;", true)
  | 1 => ("CellYard", "ground", "LCellYard$Ground;", true)
  | 2 => ("CellYard", "frames", "LCellYard$Frames;", true)
  | 3 => ("CellYard", "dropping", "LCellYard$Dropping;", true)
  | 4 => ("CellYard", "toldMade", "I", false)
  | _ => ("CellYard", "foundAt", "I", false)
def tyX4 : Nat → FieldType := fun k => match k with
  | 0 => .object "CellYard$Shapes"
  | 1 => .object "CellYard$Ground"
  | 2 => .object "CellYard$Frames"
  | 3 => .object "CellYard$Dropping"
  | 4 => .int
  | _ => .int
abbrev wsX40 : List Cond := u_ws RX4 TX4 6
theorem nmX4 : ∀ a, a < 6 → ∀ b, b < 6 → a ≠ b → (TX4 a).2.1 ≠ (TX4 b).2.1 := by decide +kernel
theorem tyX4_ok : ∀ k, k < 6 → parseFieldDescriptor (TX4 k).2.2.1 = some (tyX4 k) := by decide +kernel
abbrev cX4_init : ByteArray := prog_1_method_1_code
def yX4_init : MethodName := ⟨RX4, "<init>", "()V"⟩
abbrev cX4_record : ByteArray := prog_1_method_2_code
def yX4_record : MethodName := ⟨RX4, "record", "(ZIII)I"⟩
abbrev cX4_choice : ByteArray := prog_1_method_3_code
def yX4_choice : MethodName := ⟨RX4, "choice", "(III)I"⟩
abbrev cX4_box : ByteArray := prog_1_method_4_code
def yX4_box : MethodName := ⟨RX4, "box", "(I)I"⟩
abbrev cX4_tie : ByteArray := prog_1_method_5_code
def yX4_tie : MethodName := ⟨RX4, "tie", "(II)I"⟩
abbrev cX4_row : ByteArray := prog_1_method_6_code
def yX4_row : MethodName := ⟨RX4, "row", "(I)I"⟩
abbrev cX4_about : ByteArray := prog_1_method_7_code
def yX4_about : MethodName := ⟨RX4, "about", "(II)I"⟩
abbrev cX4_number : ByteArray := prog_1_method_8_code
def yX4_number : MethodName := ⟨RX4, "number", "(J)I"⟩
abbrev cX4_make : ByteArray := prog_1_method_9_code
def yX4_make : MethodName := ⟨RX4, "make", "(II)I"⟩
abbrev cX4_gather : ByteArray := prog_1_method_10_code
def yX4_gather : MethodName := ⟨RX4, "gather", "(II)I"⟩
abbrev cX4_open : ByteArray := prog_1_method_11_code
def yX4_open : MethodName := ⟨RX4, "open", "()I"⟩
abbrev cX4_apart : ByteArray := prog_1_method_12_code
def yX4_apart : MethodName := ⟨RX4, "apart", "()I"⟩
abbrev cX4_drop : ByteArray := prog_1_method_13_code
def yX4_drop : MethodName := ⟨RX4, "drop", "()I"⟩
abbrev cX4_store : ByteArray := prog_1_method_14_code
def yX4_store : MethodName := ⟨RX4, "store", "(I)I"⟩
abbrev cX4_load : ByteArray := prog_1_method_15_code
def yX4_load : MethodName := ⟨RX4, "load", "(I)I"⟩
abbrev cX4_set : ByteArray := prog_1_method_16_code
def yX4_set : MethodName := ⟨RX4, "set", "(II)I"⟩
abbrev cX4_swap : ByteArray := prog_1_method_17_code
def yX4_swap : MethodName := ⟨RX4, "swap", "(II)I"⟩
abbrev cX4_push : ByteArray := prog_1_method_18_code
def yX4_push : MethodName := ⟨RX4, "push", "(II)I"⟩
abbrev cX4_pop : ByteArray := prog_1_method_19_code
def yX4_pop : MethodName := ⟨RX4, "pop", "(II)I"⟩
abbrev cX4_enter : ByteArray := prog_1_method_20_code
def yX4_enter : MethodName := ⟨RX4, "enter", "(I)I"⟩
abbrev cX4_leave : ByteArray := prog_1_method_21_code
def yX4_leave : MethodName := ⟨RX4, "leave", "(Z)I"⟩
abbrev cX4_fail : ByteArray := prog_1_method_22_code
def yX4_fail : MethodName := ⟨RX4, "fail", "()I"⟩
abbrev cX4_shape : ByteArray := prog_1_method_23_code
def yX4_shape : MethodName := ⟨RX4, "shape", "(II)I"⟩
abbrev cX4_look : ByteArray := prog_1_method_24_code
def yX4_look : MethodName := ⟨RX4, "look", "(II)J"⟩
abbrev cX4_state : ByteArray := prog_1_method_25_code
def yX4_state : MethodName := ⟨RX4, "state", "(II)I"⟩
abbrev cX4_out : ByteArray := prog_1_method_26_code
def yX4_out : MethodName := ⟨RX4, "out", "(I)J"⟩
abbrev cX4_count : ByteArray := prog_1_method_27_code
def yX4_count : MethodName := ⟨RX4, "count", "(I)I"⟩
abbrev cX4_layOneCell : ByteArray := prog_1_method_28_code
def yX4_layOneCell : MethodName := ⟨RX4, "layOneCell", "(IJ)I"⟩
abbrev cX4_makeRecord : ByteArray := prog_1_method_29_code
def yX4_makeRecord : MethodName := ⟨RX4, "makeRecord", "(I)I"⟩
abbrev cX4_handEndsWithFieldsOf : ByteArray := prog_1_method_30_code
def yX4_handEndsWithFieldsOf : MethodName := ⟨RX4, "handEndsWithFieldsOf", "(II)Z"⟩
abbrev cX4_makeChoice : ByteArray := prog_1_method_31_code
def yX4_makeChoice : MethodName := ⟨RX4, "makeChoice", "(II)I"⟩
abbrev cX4_makeBox : ByteArray := prog_1_method_32_code
def yX4_makeBox : MethodName := ⟨RX4, "makeBox", "(I)I"⟩
abbrev cX4_takeRecordApart : ByteArray := prog_1_method_33_code
def yX4_takeRecordApart : MethodName := ⟨RX4, "takeRecordApart", "(I)I"⟩
abbrev cX4_takeChoiceApart : ByteArray := prog_1_method_34_code
def yX4_takeChoiceApart : MethodName := ⟨RX4, "takeChoiceApart", "(I)I"⟩
abbrev cX4_replaceTopShape : ByteArray := prog_1_method_35_code
def yX4_replaceTopShape : MethodName := ⟨RX4, "replaceTopShape", "(I)V"⟩
abbrev cX4_handAt : ByteArray := prog_1_method_36_code
def yX4_handAt : MethodName := ⟨RX4, "handAt", "(I)I"⟩
abbrev cX4_slotAt : ByteArray := prog_1_method_37_code
def yX4_slotAt : MethodName := ⟨RX4, "slotAt", "(II)I"⟩
abbrev cX4_isSlot : ByteArray := prog_1_method_38_code
def yX4_isSlot : MethodName := ⟨RX4, "isSlot", "(I)Z"⟩
abbrev cX4_topAt : ByteArray := prog_1_method_39_code
def yX4_topAt : MethodName := ⟨RX4, "topAt", "()I"⟩
abbrev cX4_seek : ByteArray := prog_1_method_40_code
def yX4_seek : MethodName := ⟨RX4, "seek", "(II)I"⟩
abbrev cX4_step : ByteArray := prog_1_method_41_code
def yX4_step : MethodName := ⟨RX4, "step", "(II)I"⟩
abbrev cX4_stepToField : ByteArray := prog_1_method_42_code
def yX4_stepToField : MethodName := ⟨RX4, "stepToField", "(II)I"⟩
abbrev cX4_stepToPart : ByteArray := prog_1_method_43_code
def yX4_stepToPart : MethodName := ⟨RX4, "stepToPart", "(I)I"⟩
abbrev cX4_stepIntoBox : ByteArray := prog_1_method_44_code
def yX4_stepIntoBox : MethodName := ⟨RX4, "stepIntoBox", "(I)I"⟩
abbrev cX4_stepToElement : ByteArray := prog_1_method_45_code
def yX4_stepToElement : MethodName := ⟨RX4, "stepToElement", "(II)I"⟩
abbrev cX4_endLastFrame : ByteArray := prog_1_method_46_code
def yX4_endLastFrame : MethodName := ⟨RX4, "endLastFrame", "(I)V"⟩
def RX5 : String := "CellYardModel"
def TX5 : u_T := fun k => match k with
  | 0 => ("CellYardModel", "kind", "[I", true)
  | 1 => ("CellYardModel", "size", "[I", true)
  | 2 => ("CellYardModel", "of", "[I", true)
  | 3 => ("CellYardModel", "shapes", "I", false)
  | 4 => ("CellYardModel", "shapeOf", "[I", false)
  | 5 => ("CellYardModel", "kids", "[I", false)
  | 6 => ("CellYardModel", "num", "[J", false)
  | 7 => ("CellYardModel", "nodes", "I", false)
  | 8 => ("CellYardModel", "spare", "I", false)
  | 9 => ("CellYardModel", "hand", "[I", true)
  | 10 => ("CellYardModel", "slots", "[I", true)
  | 11 => ("CellYardModel", "ahead", "[I", true)
  | 12 => ("CellYardModel", "held", "I", false)
  | 13 => ("CellYardModel", "frames", "I", false)
  | 14 => ("CellYardModel", "outs", "[J", true)
  | 15 => ("CellYardModel", "told", "I", false)
  | 16 => ("CellYardModel", "boxes", "I", false)
  | 17 => ("CellYardModel", "rows", "I", false)
  | 18 => ("CellYardModel", "made", "I", false)
  | 19 => ("CellYardModel", "dropped", "I", false)
  | 20 => ("CellYardModel", "isSlot", "Z", false)
  | 21 => ("CellYardModel", "inNode", "I", false)
  | _ => ("CellYardModel", "atKid", "I", false)
def tyX5 : Nat → FieldType := fun k => match k with
  | 0 => .array .int
  | 1 => .array .int
  | 2 => .array .int
  | 3 => .int
  | 4 => .array .int
  | 5 => .array .int
  | 6 => .array .long
  | 7 => .int
  | 8 => .int
  | 9 => .array .int
  | 10 => .array .int
  | 11 => .array .int
  | 12 => .int
  | 13 => .int
  | 14 => .array .long
  | 15 => .int
  | 16 => .int
  | 17 => .int
  | 18 => .int
  | 19 => .int
  | 20 => .boolean
  | 21 => .int
  | _ => .int
abbrev wsX50 : List Cond := u_ws RX5 TX5 23
theorem nmX5 : ∀ a, a < 23 → ∀ b, b < 23 → a ≠ b → (TX5 a).2.1 ≠ (TX5 b).2.1 := by decide +kernel
theorem tyX5_ok : ∀ k, k < 23 → parseFieldDescriptor (TX5 k).2.2.1 = some (tyX5 k) := by decide +kernel
abbrev cX5_init : ByteArray := prog_7_method_1_code
def yX5_init : MethodName := ⟨RX5, "<init>", "()V"⟩
abbrev cX5_in : ByteArray := prog_7_method_2_code
def yX5_in : MethodName := ⟨RX5, "in", "(III)Z"⟩
abbrev cX5_isShape : ByteArray := prog_7_method_3_code
def yX5_isShape : MethodName := ⟨RX5, "isShape", "(I)Z"⟩
abbrev cX5_come : ByteArray := prog_7_method_4_code
def yX5_come : MethodName := ⟨RX5, "come", "(IIIII)I"⟩
abbrev cX5_sizeOf : ByteArray := prog_7_method_5_code
def yX5_sizeOf : MethodName := ⟨RX5, "sizeOf", "(I)I"⟩
abbrev cX5_record : ByteArray := prog_7_method_6_code
def yX5_record : MethodName := ⟨RX5, "record", "(ZIII)I"⟩
abbrev cX5_choice : ByteArray := prog_7_method_7_code
def yX5_choice : MethodName := ⟨RX5, "choice", "(III)I"⟩
abbrev cX5_box : ByteArray := prog_7_method_8_code
def yX5_box : MethodName := ⟨RX5, "box", "(I)I"⟩
abbrev cX5_tie : ByteArray := prog_7_method_9_code
def yX5_tie : MethodName := ⟨RX5, "tie", "(II)I"⟩
abbrev cX5_row : ByteArray := prog_7_method_10_code
def yX5_row : MethodName := ⟨RX5, "row", "(I)I"⟩
abbrev cX5_about : ByteArray := prog_7_method_11_code
def yX5_about : MethodName := ⟨RX5, "about", "(II)I"⟩
abbrev cX5_node : ByteArray := prog_7_method_12_code
def yX5_node : MethodName := ⟨RX5, "node", "(IJ)I"⟩
abbrev cX5_grow : ByteArray := prog_7_method_13_code
def yX5_grow : MethodName := ⟨RX5, "grow", "()V"⟩
abbrev cX5_free : ByteArray := prog_7_method_14_code
def yX5_free : MethodName := ⟨RX5, "free", "(I)V"⟩
abbrev cX5_kindOf : ByteArray := prog_7_method_15_code
def yX5_kindOf : MethodName := ⟨RX5, "kindOf", "(I)I"⟩
abbrev cX5_dropped : ByteArray := prog_7_method_16_code
def yX5_dropped : MethodName := ⟨RX5, "dropped", "(I)V"⟩
abbrev cX5_mine : ByteArray := prog_7_method_17_code
def yX5_mine : MethodName := ⟨RX5, "mine", "()I"⟩
abbrev cX5_top : ByteArray := prog_7_method_18_code
def yX5_top : MethodName := ⟨RX5, "top", "(I)I"⟩
abbrev cX5_slot : ByteArray := prog_7_method_19_code
def yX5_slot : MethodName := ⟨RX5, "slot", "(I)I"⟩
abbrev cX5_find : ByteArray := prog_7_method_20_code
def yX5_find : MethodName := ⟨RX5, "find", "(II)I"⟩
abbrev cX5_put : ByteArray := prog_7_method_21_code
def yX5_put : MethodName := ⟨RX5, "put", "(I)V"⟩
abbrev cX5_comes : ByteArray := prog_7_method_22_code
def yX5_comes : MethodName := ⟨RX5, "comes", "(I)I"⟩
abbrev cX5_number : ByteArray := prog_7_method_23_code
def yX5_number : MethodName := ⟨RX5, "number", "(J)I"⟩
abbrev cX5_parts : ByteArray := prog_7_method_24_code
def yX5_parts : MethodName := ⟨RX5, "parts", "(I)I"⟩
abbrev cX5_wrap : ByteArray := prog_7_method_25_code
def yX5_wrap : MethodName := ⟨RX5, "wrap", "(IJI)I"⟩
abbrev cX5_make : ByteArray := prog_7_method_26_code
def yX5_make : MethodName := ⟨RX5, "make", "(II)I"⟩
abbrev cX5_gather : ByteArray := prog_7_method_27_code
def yX5_gather : MethodName := ⟨RX5, "gather", "(II)I"⟩
abbrev cX5_open : ByteArray := prog_7_method_28_code
def yX5_open : MethodName := ⟨RX5, "open", "()I"⟩
abbrev cX5_apart : ByteArray := prog_7_method_29_code
def yX5_apart : MethodName := ⟨RX5, "apart", "()I"⟩
abbrev cX5_drop : ByteArray := prog_7_method_30_code
def yX5_drop : MethodName := ⟨RX5, "drop", "()I"⟩
abbrev cX5_store : ByteArray := prog_7_method_31_code
def yX5_store : MethodName := ⟨RX5, "store", "(I)I"⟩
abbrev cX5_load : ByteArray := prog_7_method_32_code
def yX5_load : MethodName := ⟨RX5, "load", "(I)I"⟩
abbrev cX5_set : ByteArray := prog_7_method_33_code
def yX5_set : MethodName := ⟨RX5, "set", "(II)I"⟩
abbrev cX5_swap : ByteArray := prog_7_method_34_code
def yX5_swap : MethodName := ⟨RX5, "swap", "(II)I"⟩
abbrev cX5_push : ByteArray := prog_7_method_35_code
def yX5_push : MethodName := ⟨RX5, "push", "(II)I"⟩
abbrev cX5_pop : ByteArray := prog_7_method_36_code
def yX5_pop : MethodName := ⟨RX5, "pop", "(II)I"⟩
abbrev cX5_enter : ByteArray := prog_7_method_37_code
def yX5_enter : MethodName := ⟨RX5, "enter", "(I)I"⟩
abbrev cX5_empty : ByteArray := prog_7_method_38_code
def yX5_empty : MethodName := ⟨RX5, "empty", "()V"⟩
abbrev cX5_leave : ByteArray := prog_7_method_39_code
def yX5_leave : MethodName := ⟨RX5, "leave", "(Z)I"⟩
abbrev cX5_fail : ByteArray := prog_7_method_40_code
def yX5_fail : MethodName := ⟨RX5, "fail", "()I"⟩
abbrev cX5_shape : ByteArray := prog_7_method_41_code
def yX5_shape : MethodName := ⟨RX5, "shape", "(II)I"⟩
abbrev cX5_look : ByteArray := prog_7_method_42_code
def yX5_look : MethodName := ⟨RX5, "look", "(II)J"⟩
abbrev cX5_state : ByteArray := prog_7_method_43_code
def yX5_state : MethodName := ⟨RX5, "state", "(II)I"⟩
abbrev cX5_out : ByteArray := prog_7_method_44_code
def yX5_out : MethodName := ⟨RX5, "out", "(I)J"⟩
abbrev cX5_count : ByteArray := prog_7_method_45_code
def yX5_count : MethodName := ⟨RX5, "count", "(I)I"⟩
abbrev RL : String := "CellYardLaw"
abbrev vwCl : List vw_C := [(RX0, TX0, 7), (RX1, TX1, 5), (RX2, TX2, 6), (RX3, TX3, 4), (RX4, TX4, 6), (RX5, TX5, 23)]
/-- the words that go down into every call -/
def am_tb : List Cond := lw_tbl.filter goodWord
def am_wd (p : Nat) (w : Cond) : Bool := decide (lw_tbl[p]? = some w) && goodWord w
theorem am_wd_ok {p : Nat} {w : Cond} (h : am_wd p w = true) : w ∈ am_tb := by
  simp only [am_wd, Bool.and_eq_true, decide_eq_true_eq] at h
  exact List.mem_filter.mpr ⟨List.mem_of_getElem? h.1, h.2⟩
theorem am_tb_in : ∀ w ∈ am_tb, w ∈ lw_tbl := fun w h => (List.mem_filter.mp h).1
theorem am_tb_good : ∀ w ∈ am_tb, (w.onTables && w.keeps) = true ∨ ∃ ty, w = .arrayClass ty := fun w h => good_of_word (List.mem_filter.mp h).2
def am_cn (o : Nat) : String := match o with
  | 0 => RX0
  | 1 => RX1
  | 2 => RX2
  | 3 => RX3
  | 4 => RX4
  | 5 => RX5
  | _ => RL
def am_T (o : Nat) : u_T := match o with
  | 0 => TX0
  | 1 => TX1
  | 2 => TX2
  | 3 => TX3
  | 4 => TX4
  | _ => TX5
def am_N (o : Nat) : Nat := match o with
  | 0 => 7
  | 1 => 5
  | 2 => 6
  | 3 => 4
  | 4 => 6
  | _ => 23
def am_ty (o : Nat) : Nat → FieldType := match o with
  | 0 => tyX0
  | 1 => tyX1
  | 2 => tyX2
  | 3 => tyX3
  | 4 => tyX4
  | _ => tyX5
set_option maxRecDepth 20000 in
theorem am_u0 : ∀ w ∈ wsX00, w ∈ am_tb := by
  have h : ((wsX00.zip [142, 144, 146, 148, 150, 152, 154]).all (fun q => am_wd q.2 q.1)) = true := by decide +kernel
  have h2 : (wsX00.zip [142, 144, 146, 148, 150, 152, 154]).map (fun q => q.1) = wsX00 := by decide +kernel
  intro w hw
  rw [← h2] at hw
  obtain ⟨q, hq, rfl⟩ := List.mem_map.mp hw
  exact am_wd_ok (List.all_eq_true.mp h q hq)
set_option maxRecDepth 20000 in
theorem am_u1 : ∀ w ∈ wsX10, w ∈ am_tb := by
  have h : ((wsX10.zip [118, 120, 122, 124, 126]).all (fun q => am_wd q.2 q.1)) = true := by decide +kernel
  have h2 : (wsX10.zip [118, 120, 122, 124, 126]).map (fun q => q.1) = wsX10 := by decide +kernel
  intro w hw
  rw [← h2] at hw
  obtain ⟨q, hq, rfl⟩ := List.mem_map.mp hw
  exact am_wd_ok (List.all_eq_true.mp h q hq)
set_option maxRecDepth 20000 in
theorem am_u2 : ∀ w ∈ wsX20, w ∈ am_tb := by
  have h : ((wsX20.zip [92, 94, 96, 98, 100, 102]).all (fun q => am_wd q.2 q.1)) = true := by decide +kernel
  have h2 : (wsX20.zip [92, 94, 96, 98, 100, 102]).map (fun q => q.1) = wsX20 := by decide +kernel
  intro w hw
  rw [← h2] at hw
  obtain ⟨q, hq, rfl⟩ := List.mem_map.mp hw
  exact am_wd_ok (List.all_eq_true.mp h q hq)
set_option maxRecDepth 20000 in
theorem am_u3 : ∀ w ∈ wsX30, w ∈ am_tb := by
  have h : ((wsX30.zip [70, 72, 74, 76]).all (fun q => am_wd q.2 q.1)) = true := by decide +kernel
  have h2 : (wsX30.zip [70, 72, 74, 76]).map (fun q => q.1) = wsX30 := by decide +kernel
  intro w hw
  rw [← h2] at hw
  obtain ⟨q, hq, rfl⟩ := List.mem_map.mp hw
  exact am_wd_ok (List.all_eq_true.mp h q hq)
set_option maxRecDepth 20000 in
theorem am_u4 : ∀ w ∈ wsX40, w ∈ am_tb := by
  have h : ((wsX40.zip [163, 165, 167, 169, 171, 173]).all (fun q => am_wd q.2 q.1)) = true := by decide +kernel
  have h2 : (wsX40.zip [163, 165, 167, 169, 171, 173]).map (fun q => q.1) = wsX40 := by decide +kernel
  intro w hw
  rw [← h2] at hw
  obtain ⟨q, hq, rfl⟩ := List.mem_map.mp hw
  exact am_wd_ok (List.all_eq_true.mp h q hq)
set_option maxRecDepth 20000 in
theorem am_u5 : ∀ w ∈ wsX50, w ∈ am_tb := by
  have h : ((wsX50.zip [615, 617, 619, 621, 623, 625, 627, 629, 631, 633, 635, 637, 639, 641, 643, 645, 647, 649, 651, 653, 655, 657, 659]).all (fun q => am_wd q.2 q.1)) = true := by decide +kernel
  have h2 : (wsX50.zip [615, 617, 619, 621, 623, 625, 627, 629, 631, 633, 635, 637, 639, 641, 643, 645, 647, 649, 651, 653, 655, 657, 659]).map (fun q => q.1) = wsX50 := by decide +kernel
  intro w hw
  rw [← h2] at hw
  obtain ⟨q, hq, rfl⟩ := List.mem_map.mp hw
  exact am_wd_ok (List.all_eq_true.mp h q hq)
theorem am_cls (o : Nat) (h : o < 6) : vwCl[o]? = some (am_cn o, am_T o, am_N o) ∧ (∀ w ∈ u_ws (am_cn o) (am_T o) (am_N o), w ∈ am_tb) ∧ (∀ k, k < am_N o → parseFieldDescriptor (am_T o k).2.2.1 = some (am_ty o k)) ∧ (∀ a, a < am_N o → ∀ b, b < am_N o → a ≠ b → (am_T o a).2.1 ≠ (am_T o b).2.1) := by
  match o, h with
  | 0, _ => exact ⟨rfl, am_u0, tyX0_ok, nmX0⟩
  | 1, _ => exact ⟨rfl, am_u1, tyX1_ok, nmX1⟩
  | 2, _ => exact ⟨rfl, am_u2, tyX2_ok, nmX2⟩
  | 3, _ => exact ⟨rfl, am_u3, tyX3_ok, nmX3⟩
  | 4, _ => exact ⟨rfl, am_u4, tyX4_ok, nmX4⟩
  | 5, _ => exact ⟨rfl, am_u5, tyX5_ok, nmX5⟩
def am_df (o : Nat) : List Value := match o with
  | 0 => [.null, .null, .null, .null, .int 0, .int 0, .int 0]
  | 1 => [.null, .null, .null, .int 0, .int 0]
  | 2 => [.null, .null, .null, .null, .int 0, .int 0]
  | 3 => [.null, .null, .null, .int 0]
  | 4 => [.null, .null, .null, .null, .int 0, .int 0]
  | _ => [.null, .null, .null, .int 0, .null, .null, .null, .int 0, .int 0, .null, .null, .null, .int 0, .int 0, .null, .int 0, .int 0, .int 0, .int 0, .int 0, .int 0, .int 0, .int 0]
theorem am_df_ok (o : Nat) (h : o < 6) : ∀ j, j < am_N o → defaultValue (am_ty o j) = vp_V (am_df o) j := by
  match o, h with
  | 0, _ => exact (by decide +kernel : ∀ j, j < 7 → defaultValue (tyX0 j) = vp_V (am_df 0) j)
  | 1, _ => exact (by decide +kernel : ∀ j, j < 5 → defaultValue (tyX1 j) = vp_V (am_df 1) j)
  | 2, _ => exact (by decide +kernel : ∀ j, j < 6 → defaultValue (tyX2 j) = vp_V (am_df 2) j)
  | 3, _ => exact (by decide +kernel : ∀ j, j < 4 → defaultValue (tyX3 j) = vp_V (am_df 3) j)
  | 4, _ => exact (by decide +kernel : ∀ j, j < 6 → defaultValue (tyX4 j) = vp_V (am_df 4) j)
  | 5, _ => exact (by decide +kernel : ∀ j, j < 23 → defaultValue (tyX5 j) = vp_V (am_df 5) j)
/-- field links: owner, pool place, class, field, place of the word -/
def am_fl : List (Nat × Nat × Nat × Nat × Nat) := [(0, 11, 0, 2, 137), (0, 15, 0, 3, 138), (0, 19, 0, 4, 139), (0, 23, 0, 5, 140), (0, 26, 0, 6, 141), (0, 29, 0, 0, 135), (0, 33, 0, 1, 136), (1, 9, 1, 0, 113), (1, 15, 1, 1, 114), (1, 18, 1, 2, 115), (1, 21, 1, 3, 116), (1, 25, 1, 4, 117), (2, 9, 2, 0, 86), (2, 15, 2, 1, 87), (2, 19, 2, 2, 88), (2, 22, 2, 3, 89), (2, 26, 2, 4, 90), (2, 30, 2, 5, 91), (3, 9, 3, 0, 66), (3, 15, 3, 1, 67), (3, 18, 3, 2, 68), (3, 21, 3, 3, 69), (4, 12, 4, 0, 157), (4, 19, 4, 1, 158), (4, 26, 4, 2, 159), (4, 35, 4, 3, 160), (4, 39, 4, 4, 161), (4, 43, 4, 5, 162), (5, 7, 5, 0, 592), (5, 13, 5, 1, 593), (5, 16, 5, 2, 594), (5, 19, 5, 3, 595), (5, 23, 5, 4, 596), (5, 26, 5, 5, 597), (5, 29, 5, 6, 598), (5, 33, 5, 7, 599), (5, 36, 5, 9, 601), (5, 39, 5, 10, 602), (5, 42, 5, 11, 603), (5, 45, 5, 13, 605), (5, 48, 5, 14, 606), (5, 73, 5, 8, 600), (5, 82, 5, 15, 607), (5, 85, 5, 19, 611), (5, 91, 5, 16, 608), (5, 94, 5, 17, 609), (5, 100, 5, 12, 604), (5, 107, 5, 20, 612), (5, 111, 5, 21, 613), (5, 114, 5, 22, 614), (5, 134, 5, 18, 610)]
def am_fk (q : Nat × Nat × Nat × Nat × Nat) : Bool := match q with
  | (o, i, c, k, p) => decide (c < 6) && decide (k < am_N c) && am_wd p (.fieldLink (am_cn o) i (am_T c k).1 (am_T c k).2.1 (am_T c k).2.2.1)
set_option maxRecDepth 20000 in
theorem am_fl_ok : am_fl.all am_fk = true := by decide +kernel
def am_nl : List (Nat × Nat × Nat × Nat × Nat × Nat) := [(4, 9, 3, 56, 57, 41), (4, 16, 2, 80, 81, 42), (4, 23, 1, 107, 108, 43), (4, 30, 0, 129, 130, 44), (6, 7, 4, 48, 49, 40), (6, 10, 5, 586, 587, 45)]
def am_nk (q : Nat × Nat × Nat × Nat × Nat × Nat) : Bool := match q with
  | (o, i, c, p, p2, p3) => decide (c < 6) && am_wd p (.classLink (am_cn o) i (am_cn c)) && am_wd p2 (.instantiable (am_cn c) (am_N c)) && am_wd p3 (.initialized (am_cn c))
set_option maxRecDepth 20000 in
theorem am_nl_ok : am_nl.all am_nk = true := by decide +kernel
def am_ki : List (Nat × Nat × Int32 × Nat) := [(0, 41, 1000000, 397), (4, 229, 16777215, 471), (5, 103, 16777215, 786)]
def am_kl : List (Nat × Nat × Int64 × Nat) := [(2, 54, 60, 336), (2, 56, 20, 360), (5, 147, 8, 799), (6, 41, 4294967295, 840)]
set_option maxRecDepth 20000 in
theorem am_ki_ok : am_ki.all (fun q => am_wd q.2.2.2 (.constant (am_cn q.1) q.2.1 q.2.2.1)) = true := by decide +kernel
set_option maxRecDepth 20000 in
theorem am_kl_ok : am_kl.all (fun q => am_wd q.2.2.2 (.constantLong (am_cn q.1) q.2.1 q.2.2.1)) = true := by decide +kernel
abbrev am_my : List MethodName := [yX0_init, yX0_toldDropped, yX0_outLength, yX0_toldAs, yX0_dropValue, yX0_await, yX0_dropOne, yX0_tell, yX0_awaitFields, yX0_awaitBoxed, yX0_awaitElements, yX1_init, yX1_frameCount, yX1_lastFrame, yX1_addFrame, yX1_removeFrame, yX1_handCount, yX1_handOfLast, yX1_handHasRoomFor, yX1_handShape, yX1_topShape, yX1_handEndsWith, yX1_layOn, yX1_takeOff, yX1_slotShape, yX1_fillSlot, yX1_hasSlot, yX1_filledSlots, yX2_init, yX2_read, yX2_write, yX2_moveCells, yX2_swapCells, yX2_areCells, yX2_boxesThere, yX2_rowsThere, yX2_takeBox, yX2_takeRow, yX2_firstFree, yX2_freeBox, yX2_freeRow, yX2_isBox, yX2_isRow, yX2_boxAt, yX2_elementAt, yX2_lengthOf, yX2_setLength, yX3_init, yX3_add, yX3_tieLooseBox, yX3_howMany, yX3_has, yX3_hasOrNone, yX3_kindOf, yX3_sizeOf, yX3_partOf, yX3_partsOf, yX3_offsetOf, yX4_init, yX4_record, yX4_choice, yX4_box, yX4_tie, yX4_row, yX4_about, yX4_number, yX4_make, yX4_gather, yX4_open, yX4_apart, yX4_drop, yX4_store, yX4_load, yX4_set, yX4_swap, yX4_push, yX4_pop, yX4_enter, yX4_leave, yX4_fail, yX4_shape, yX4_look, yX4_state, yX4_out, yX4_count, yX4_layOneCell, yX4_makeRecord, yX4_handEndsWithFieldsOf, yX4_makeChoice, yX4_makeBox, yX4_takeRecordApart, yX4_takeChoiceApart, yX4_replaceTopShape, yX4_handAt, yX4_slotAt, yX4_isSlot, yX4_topAt, yX4_seek, yX4_step, yX4_stepToField, yX4_stepToPart, yX4_stepIntoBox, yX4_stepToElement, yX4_endLastFrame, yX5_init, yX5_in, yX5_isShape, yX5_come, yX5_sizeOf, yX5_record, yX5_choice, yX5_box, yX5_tie, yX5_row, yX5_about, yX5_node, yX5_grow, yX5_free, yX5_kindOf, yX5_dropped, yX5_mine, yX5_top, yX5_slot, yX5_find, yX5_put, yX5_comes, yX5_number, yX5_parts, yX5_wrap, yX5_make, yX5_gather, yX5_open, yX5_apart, yX5_drop, yX5_store, yX5_load, yX5_set, yX5_swap, yX5_push, yX5_pop, yX5_enter, yX5_empty, yX5_leave, yX5_fail, yX5_shape, yX5_look, yX5_state, yX5_out, yX5_count]
/-- method links: kind (0 virtual, 1 constructor, 2 static, 3 nest constructor, 4 nest static, 5 Object, 6 Math.max, 7 arraycopy), owner, pool place, method, places of the words -/
def am_ml : List (Nat × Nat × Nat × Nat × Nat × Nat × Nat × Nat) := [(5, 0, 3, 0, 134, 0, 0, 0),
  (0, 0, 37, 5, 393, 395, 9, 44),
  (0, 0, 42, 6, 398, 400, 10, 44),
  (0, 0, 45, 53, 402, 214, 215, 41),
  (0, 0, 51, 29, 403, 366, 367, 42),
  (0, 0, 57, 7, 404, 406, 11, 44),
  (0, 0, 61, 8, 408, 410, 12, 44),
  (0, 0, 64, 55, 413, 218, 219, 41),
  (0, 0, 68, 9, 414, 416, 13, 44),
  (0, 0, 72, 10, 420, 422, 14, 44),
  (0, 0, 75, 54, 412, 190, 191, 41),
  (0, 0, 78, 39, 418, 370, 371, 42),
  (0, 0, 81, 43, 419, 330, 331, 42),
  (0, 0, 85, 40, 424, 425, 426, 42),
  (0, 0, 88, 45, 428, 429, 430, 42),
  (0, 0, 91, 44, 432, 354, 355, 42),
  (5, 1, 3, 0, 112, 0, 0, 0),
  (0, 1, 28, 17, 308, 282, 283, 43),
  (0, 1, 32, 19, 309, 286, 287, 43),
  (2, 1, 36, 26, 448, 449, 43, 0),
  (5, 2, 3, 0, 85, 0, 0, 0),
  (2, 2, 33, 33, 262, 263, 42, 0),
  (7, 2, 37, 0, 293, 0, 0, 0),
  (2, 2, 43, 38, 326, 327, 42, 0),
  (2, 2, 47, 41, 333, 334, 42, 0),
  (2, 2, 51, 42, 357, 358, 42, 0),
  (5, 3, 3, 0, 61, 0, 0, 0),
  (0, 3, 25, 48, 62, 63, 64, 41),
  (0, 3, 29, 53, 213, 214, 215, 41),
  (0, 3, 33, 55, 217, 218, 219, 41),
  (0, 3, 37, 51, 188, 181, 182, 41),
  (0, 3, 41, 54, 484, 190, 191, 41),
  (5, 4, 3, 0, 53, 0, 0, 0),
  (1, 4, 11, 47, 58, 59, 41, 0),
  (1, 4, 25, 11, 109, 110, 43, 0),
  (1, 4, 32, 0, 131, 132, 44, 0),
  (0, 4, 46, 51, 180, 181, 182, 41),
  (0, 4, 50, 52, 184, 185, 186, 41),
  (0, 4, 53, 54, 189, 190, 191, 41),
  (0, 4, 57, 48, 193, 63, 64, 41),
  (6, 4, 61, 0, 198, 0, 0, 0),
  (0, 4, 67, 49, 209, 210, 211, 41),
  (0, 4, 71, 53, 229, 214, 215, 41),
  (0, 4, 74, 55, 230, 218, 219, 41),
  (0, 4, 77, 85, 235, 237, 0, 40),
  (0, 4, 81, 86, 269, 271, 2, 40),
  (0, 4, 84, 88, 300, 302, 4, 40),
  (0, 4, 87, 89, 314, 316, 6, 40),
  (0, 4, 90, 21, 341, 342, 343, 43),
  (0, 4, 93, 18, 239, 240, 241, 43),
  (0, 4, 96, 35, 345, 346, 347, 42),
  (0, 4, 100, 37, 349, 350, 351, 42),
  (0, 4, 103, 16, 251, 252, 253, 43),
  (2, 4, 106, 93, 255, 256, 40, 0),
  (0, 4, 109, 44, 353, 354, 355, 42),
  (0, 4, 113, 31, 289, 290, 291, 42),
  (0, 4, 117, 30, 258, 259, 260, 42),
  (0, 4, 121, 23, 296, 297, 298, 43),
  (0, 4, 125, 22, 243, 244, 245, 43),
  (0, 4, 128, 20, 304, 305, 306, 43),
  (0, 4, 131, 96, 247, 249, 1, 40),
  (0, 4, 134, 29, 365, 366, 367, 42),
  (0, 4, 138, 43, 329, 330, 331, 42),
  (0, 4, 142, 39, 369, 370, 371, 42),
  (0, 4, 146, 92, 310, 312, 5, 40),
  (0, 4, 149, 90, 377, 379, 7, 40),
  (0, 4, 152, 91, 381, 383, 8, 40),
  (0, 4, 155, 4, 389, 390, 391, 44),
  (2, 4, 159, 95, 437, 438, 40, 0),
  (0, 4, 162, 13, 440, 441, 442, 43),
  (0, 4, 165, 24, 444, 445, 446, 43),
  (2, 4, 168, 94, 452, 453, 40, 0),
  (0, 4, 171, 25, 455, 456, 457, 43),
  (0, 4, 174, 97, 467, 469, 15, 40),
  (0, 4, 177, 32, 502, 503, 504, 42),
  (0, 4, 180, 45, 497, 429, 430, 42),
  (0, 4, 183, 46, 510, 511, 512, 42),
  (0, 4, 187, 17, 281, 282, 283, 43),
  (0, 4, 190, 12, 522, 523, 524, 43),
  (0, 4, 193, 19, 285, 286, 287, 43),
  (0, 4, 196, 14, 526, 527, 528, 43),
  (0, 4, 199, 103, 534, 536, 21, 40),
  (0, 4, 202, 3, 562, 563, 564, 44),
  (0, 4, 205, 50, 570, 571, 572, 41),
  (0, 4, 208, 27, 574, 575, 576, 43),
  (0, 4, 211, 34, 318, 319, 320, 42),
  (0, 4, 214, 1, 578, 579, 580, 44),
  (0, 4, 217, 2, 582, 583, 584, 44),
  (0, 4, 220, 56, 273, 274, 275, 41),
  (0, 4, 223, 87, 277, 279, 3, 40),
  (0, 4, 226, 36, 322, 323, 324, 42),
  (0, 4, 230, 98, 472, 474, 16, 40),
  (0, 4, 233, 99, 476, 478, 17, 40),
  (0, 4, 236, 100, 485, 487, 18, 40),
  (0, 4, 239, 101, 489, 491, 19, 40),
  (0, 4, 242, 102, 493, 495, 20, 40),
  (0, 4, 245, 57, 480, 481, 482, 41),
  (0, 4, 248, 15, 538, 539, 540, 43),
  (5, 5, 1, 0, 591, 0, 0, 0),
  (2, 5, 51, 105, 670, 671, 45, 0),
  (0, 5, 55, 106, 666, 668, 22, 45),
  (0, 5, 59, 108, 673, 675, 23, 45),
  (0, 5, 63, 107, 677, 679, 24, 45),
  (6, 5, 67, 0, 685, 0, 0, 0),
  (0, 5, 76, 116, 710, 712, 26, 45),
  (0, 5, 79, 118, 746, 748, 32, 45),
  (0, 5, 88, 119, 762, 764, 34, 45),
  (0, 5, 97, 117, 750, 752, 33, 45),
  (0, 5, 104, 122, 770, 772, 35, 45),
  (0, 5, 117, 115, 706, 708, 25, 45),
  (0, 5, 121, 125, 714, 716, 27, 45),
  (0, 5, 124, 127, 722, 724, 28, 45),
  (0, 5, 127, 120, 726, 728, 29, 45),
  (0, 5, 131, 121, 730, 732, 30, 45),
  (0, 5, 137, 128, 734, 736, 31, 45),
  (0, 5, 141, 123, 782, 784, 36, 45),
  (0, 5, 144, 124, 787, 789, 37, 45),
  (0, 5, 149, 141, 812, 814, 38, 45),
  (1, 6, 9, 58, 50, 51, 40, 0),
  (1, 6, 12, 104, 588, 589, 45, 0),
  (0, 6, 13, 59, 176, 177, 178, 40),
  (0, 6, 17, 109, 662, 663, 664, 45),
  (0, 6, 18, 60, 194, 195, 196, 40),
  (0, 6, 22, 110, 681, 682, 683, 45),
  (0, 6, 23, 61, 201, 202, 203, 40),
  (0, 6, 27, 111, 686, 687, 688, 45),
  (0, 6, 28, 62, 205, 206, 207, 40),
  (0, 6, 32, 112, 690, 691, 692, 45),
  (0, 6, 33, 63, 221, 222, 223, 40),
  (0, 6, 36, 113, 694, 695, 696, 45),
  (0, 6, 37, 64, 225, 226, 227, 40),
  (0, 6, 40, 114, 698, 699, 700, 45),
  (0, 6, 43, 65, 231, 232, 233, 40),
  (0, 6, 47, 126, 702, 703, 704, 45),
  (0, 6, 48, 66, 265, 266, 267, 40),
  (0, 6, 51, 129, 718, 719, 720, 45),
  (0, 6, 52, 67, 337, 338, 339, 40),
  (0, 6, 55, 130, 738, 739, 740, 45),
  (0, 6, 56, 68, 361, 362, 363, 40),
  (0, 6, 60, 131, 742, 743, 744, 45),
  (0, 6, 61, 69, 373, 374, 375, 40),
  (0, 6, 64, 132, 754, 755, 756, 45),
  (0, 6, 65, 70, 385, 386, 387, 40),
  (0, 6, 68, 133, 758, 759, 760, 45),
  (0, 6, 69, 71, 433, 434, 435, 40),
  (0, 6, 72, 134, 766, 767, 768, 45),
  (0, 6, 73, 72, 459, 460, 461, 40),
  (0, 6, 76, 135, 774, 775, 776, 45),
  (0, 6, 77, 73, 463, 464, 465, 40),
  (0, 6, 80, 136, 778, 779, 780, 45),
  (0, 6, 81, 74, 498, 499, 500, 40),
  (0, 6, 84, 137, 791, 792, 793, 45),
  (0, 6, 85, 75, 506, 507, 508, 40),
  (0, 6, 88, 138, 795, 796, 797, 45),
  (0, 6, 89, 76, 514, 515, 516, 40),
  (0, 6, 92, 139, 800, 801, 802, 45),
  (0, 6, 93, 77, 518, 519, 520, 40),
  (0, 6, 96, 140, 804, 805, 806, 45),
  (0, 6, 97, 78, 530, 531, 532, 40),
  (0, 6, 101, 142, 808, 809, 810, 45),
  (0, 6, 102, 79, 542, 543, 544, 40),
  (0, 6, 105, 143, 816, 817, 818, 45),
  (0, 6, 106, 80, 546, 547, 548, 40),
  (0, 6, 109, 144, 820, 821, 822, 45),
  (0, 6, 110, 81, 550, 551, 552, 40),
  (0, 6, 114, 145, 824, 825, 826, 45),
  (0, 6, 115, 82, 554, 555, 556, 40),
  (0, 6, 118, 146, 828, 829, 830, 45),
  (0, 6, 119, 83, 558, 559, 560, 40),
  (0, 6, 123, 147, 832, 833, 834, 45),
  (0, 6, 124, 84, 566, 567, 568, 40),
  (0, 6, 127, 148, 836, 837, 838, 45),
  (4, 1, 40, 95, 451, 438, 40, 0),
  (3, 4, 18, 28, 82, 83, 42, 0)]
def am_mk (q : Nat × Nat × Nat × Nat × Nat × Nat × Nat × Nat) : Bool := match q with
  | (kd, o, i, j, p1, p2, p3, p4) => match am_my[j]? with
    | none => false
    | some y => match kd with
      | 0 => am_wd p1 (.methodLink (am_cn o) i y) && am_wd p2 (.instanceMethod y) && am_wd p3 (.selects y.cls y y) && am_wd p4 (.initialized y.cls)
      | 1 => am_wd p1 (.methodLink (am_cn o) i y) && am_wd p2 (.instanceMethod y) && am_wd p3 (.initialized y.cls) && decide (y.name = "<init>")
      | 2 => am_wd p1 (.methodLink (am_cn o) i y) && am_wd p2 (.static y) && am_wd p3 (.initialized y.cls)
      | 3 => decide (lw_tbl[p1]? = some (.methodLinkNest (am_cn o) i y RX4)) && am_wd p2 (.instanceMethod y) && am_wd p3 (.initialized y.cls) && decide (y.name = "<init>")
      | 4 => decide (lw_tbl[p1]? = some (.methodLinkNest (am_cn o) i y RX4)) && am_wd p2 (.static y) && am_wd p3 (.initialized y.cls)
      | 5 => am_wd p1 (.methodLink (am_cn o) i objectInit)
      | 6 => am_wd p1 (.methodLink (am_cn o) i Lib.Math.max.name)
      | 7 => am_wd p1 (.methodLink (am_cn o) i arraycopyName)
      | _ => false
set_option maxRecDepth 20000 in
theorem am_ml_ok : am_ml.all am_mk = true := by decide +kernel
set_option maxRecDepth 20000 in
theorem am_w_obj : Cond.instanceMethod objectInit ∈ am_tb ∧ Cond.code objectInit ⟨#[0xb1]⟩ 1 none ∈ am_tb := ⟨am_wd_ok (p := 54) (by decide +kernel), List.mem_filter.mpr ⟨List.mem_of_getElem? (i := 55) rfl, rfl⟩⟩
set_option maxRecDepth 20000 in
theorem am_w_max : Cond.static Lib.Math.max.name ∈ am_tb ∧ Cond.initialized "java/lang/Math" ∈ am_tb ∧ Cond.code Lib.Math.max.name Lib.Math.max.code 2 (some .int) ∈ am_tb := ⟨am_wd_ok (p := 199) (by decide +kernel), am_wd_ok (p := 46) (by decide +kernel), List.mem_filter.mpr ⟨List.mem_of_getElem? (i := 200) rfl, rfl⟩⟩
set_option maxRecDepth 20000 in
theorem am_w_cpy : Cond.native arraycopyName ∈ am_tb ∧ Cond.static arraycopyName ∈ am_tb ∧ Cond.initialized "java/lang/System" ∈ am_tb := ⟨am_wd_ok (p := 295) (by decide +kernel), am_wd_ok (p := 294) (by decide +kernel), am_wd_ok (p := 47) (by decide +kernel)⟩
set_option maxRecDepth 20000 in
theorem am_w_int : Cond.arrayClass .int ∈ am_tb := am_wd_ok (p := 79) (by decide +kernel)
set_option maxRecDepth 20000 in
theorem am_w_long : Cond.arrayClass .long ∈ am_tb := am_wd_ok (p := 105) (by decide +kernel)
set_option maxRecDepth 20000 in
theorem am_w_boolean : Cond.arrayClass .boolean ∈ am_tb := am_wd_ok (p := 106) (by decide +kernel)
def am_nst : List Cond := [.methodLinkNest RX1 40 yX4_isSlot RX4, .methodLinkNest RX4 18 yX2_init RX4]
theorem am_nst_form : ∀ w ∈ am_nst, ∃ a i x q, w = .methodLinkNest a i x q := by
  intro w hw
  simp only [am_nst, List.mem_cons, List.not_mem_nil, or_false] at hw
  rcases hw with rfl | rfl <;> exact ⟨_, _, _, _, rfl⟩
set_option maxRecDepth 20000 in
theorem am_nst_in : ∀ w ∈ am_nst, w ∈ lw_tbl := by
  intro w hw
  simp only [am_nst, List.mem_cons, List.not_mem_nil, or_false] at hw
  rcases hw with rfl | rfl
  · exact List.mem_of_getElem? (i := 451) (by decide +kernel)
  · exact List.mem_of_getElem? (i := 82) (by decide +kernel)
set_option maxRecDepth 20000 in
theorem am_cw_X0_init : Cond.code yX0_init cX0_init 3 none ∈ am_tb := List.mem_filter.mpr ⟨List.mem_of_getElem? (i := 133) rfl, rfl⟩
set_option maxRecDepth 20000 in
theorem am_cw_X0_toldDropped : Cond.code yX0_toldDropped cX0_toldDropped 1 (some .int) ∈ am_tb := List.mem_filter.mpr ⟨List.mem_of_getElem? (i := 581) rfl, rfl⟩
set_option maxRecDepth 20000 in
theorem am_cw_X0_outLength : Cond.code yX0_outLength cX0_outLength 1 (some .int) ∈ am_tb := List.mem_filter.mpr ⟨List.mem_of_getElem? (i := 585) rfl, rfl⟩
set_option maxRecDepth 20000 in
theorem am_cw_X0_toldAs : Cond.code yX0_toldAs cX0_toldAs 2 (some .long) ∈ am_tb := List.mem_filter.mpr ⟨List.mem_of_getElem? (i := 565) rfl, rfl⟩
set_option maxRecDepth 20000 in
theorem am_cw_X0_dropValue : Cond.code yX0_dropValue cX0_dropValue 4 none ∈ am_tb := List.mem_filter.mpr ⟨List.mem_of_getElem? (i := 392) rfl, rfl⟩
set_option maxRecDepth 20000 in
theorem am_cw_X0_await : Cond.code yX0_await cX0_await 3 none ∈ am_tb := List.mem_filter.mpr ⟨List.mem_of_getElem? (i := 396) rfl, rfl⟩
set_option maxRecDepth 20000 in
theorem am_cw_X0_dropOne : Cond.code yX0_dropOne cX0_dropOne 3 none ∈ am_tb := List.mem_filter.mpr ⟨List.mem_of_getElem? (i := 401) rfl, rfl⟩
set_option maxRecDepth 20000 in
theorem am_cw_X0_tell : Cond.code yX0_tell cX0_tell 3 none ∈ am_tb := List.mem_filter.mpr ⟨List.mem_of_getElem? (i := 407) rfl, rfl⟩
set_option maxRecDepth 20000 in
theorem am_cw_X0_awaitFields : Cond.code yX0_awaitFields cX0_awaitFields 6 none ∈ am_tb := List.mem_filter.mpr ⟨List.mem_of_getElem? (i := 411) rfl, rfl⟩
set_option maxRecDepth 20000 in
theorem am_cw_X0_awaitBoxed : Cond.code yX0_awaitBoxed cX0_awaitBoxed 4 none ∈ am_tb := List.mem_filter.mpr ⟨List.mem_of_getElem? (i := 417) rfl, rfl⟩
set_option maxRecDepth 20000 in
theorem am_cw_X0_awaitElements : Cond.code yX0_awaitElements cX0_awaitElements 5 none ∈ am_tb := List.mem_filter.mpr ⟨List.mem_of_getElem? (i := 423) rfl, rfl⟩
set_option maxRecDepth 20000 in
theorem am_cw_X1_init : Cond.code yX1_init cX1_init 2 none ∈ am_tb := List.mem_filter.mpr ⟨List.mem_of_getElem? (i := 111) rfl, rfl⟩
set_option maxRecDepth 20000 in
theorem am_cw_X1_frameCount : Cond.code yX1_frameCount cX1_frameCount 1 (some .int) ∈ am_tb := List.mem_filter.mpr ⟨List.mem_of_getElem? (i := 525) rfl, rfl⟩
set_option maxRecDepth 20000 in
theorem am_cw_X1_lastFrame : Cond.code yX1_lastFrame cX1_lastFrame 1 (some .int) ∈ am_tb := List.mem_filter.mpr ⟨List.mem_of_getElem? (i := 443) rfl, rfl⟩
set_option maxRecDepth 20000 in
theorem am_cw_X1_addFrame : Cond.code yX1_addFrame cX1_addFrame 1 none ∈ am_tb := List.mem_filter.mpr ⟨List.mem_of_getElem? (i := 529) rfl, rfl⟩
set_option maxRecDepth 20000 in
theorem am_cw_X1_removeFrame : Cond.code yX1_removeFrame cX1_removeFrame 1 none ∈ am_tb := List.mem_filter.mpr ⟨List.mem_of_getElem? (i := 541) rfl, rfl⟩
set_option maxRecDepth 20000 in
theorem am_cw_X1_handCount : Cond.code yX1_handCount cX1_handCount 1 (some .int) ∈ am_tb := List.mem_filter.mpr ⟨List.mem_of_getElem? (i := 254) rfl, rfl⟩
set_option maxRecDepth 20000 in
theorem am_cw_X1_handOfLast : Cond.code yX1_handOfLast cX1_handOfLast 1 (some .int) ∈ am_tb := List.mem_filter.mpr ⟨List.mem_of_getElem? (i := 284) rfl, rfl⟩
set_option maxRecDepth 20000 in
theorem am_cw_X1_handHasRoomFor : Cond.code yX1_handHasRoomFor cX1_handHasRoomFor 2 (some .boolean) ∈ am_tb := List.mem_filter.mpr ⟨List.mem_of_getElem? (i := 242) rfl, rfl⟩
set_option maxRecDepth 20000 in
theorem am_cw_X1_handShape : Cond.code yX1_handShape cX1_handShape 2 (some .int) ∈ am_tb := List.mem_filter.mpr ⟨List.mem_of_getElem? (i := 288) rfl, rfl⟩
set_option maxRecDepth 20000 in
theorem am_cw_X1_topShape : Cond.code yX1_topShape cX1_topShape 1 (some .int) ∈ am_tb := List.mem_filter.mpr ⟨List.mem_of_getElem? (i := 307) rfl, rfl⟩
set_option maxRecDepth 20000 in
theorem am_cw_X1_handEndsWith : Cond.code yX1_handEndsWith cX1_handEndsWith 4 (some .boolean) ∈ am_tb := List.mem_filter.mpr ⟨List.mem_of_getElem? (i := 344) rfl, rfl⟩
set_option maxRecDepth 20000 in
theorem am_cw_X1_layOn : Cond.code yX1_layOn cX1_layOn 2 none ∈ am_tb := List.mem_filter.mpr ⟨List.mem_of_getElem? (i := 246) rfl, rfl⟩
set_option maxRecDepth 20000 in
theorem am_cw_X1_takeOff : Cond.code yX1_takeOff cX1_takeOff 2 none ∈ am_tb := List.mem_filter.mpr ⟨List.mem_of_getElem? (i := 299) rfl, rfl⟩
set_option maxRecDepth 20000 in
theorem am_cw_X1_slotShape : Cond.code yX1_slotShape cX1_slotShape 3 (some .int) ∈ am_tb := List.mem_filter.mpr ⟨List.mem_of_getElem? (i := 447) rfl, rfl⟩
set_option maxRecDepth 20000 in
theorem am_cw_X1_fillSlot : Cond.code yX1_fillSlot cX1_fillSlot 4 none ∈ am_tb := List.mem_filter.mpr ⟨List.mem_of_getElem? (i := 458) rfl, rfl⟩
set_option maxRecDepth 20000 in
theorem am_cw_X1_hasSlot : Cond.code yX1_hasSlot cX1_hasSlot 2 (some .boolean) ∈ am_tb := List.mem_filter.mpr ⟨List.mem_of_getElem? (i := 450) rfl, rfl⟩
set_option maxRecDepth 20000 in
theorem am_cw_X1_filledSlots : Cond.code yX1_filledSlots cX1_filledSlots 3 (some .int) ∈ am_tb := List.mem_filter.mpr ⟨List.mem_of_getElem? (i := 577) rfl, rfl⟩
set_option maxRecDepth 20000 in
theorem am_cw_X2_init : Cond.code yX2_init cX2_init 1 none ∈ am_tb := List.mem_filter.mpr ⟨List.mem_of_getElem? (i := 84) rfl, rfl⟩
set_option maxRecDepth 20000 in
theorem am_cw_X2_read : Cond.code yX2_read cX2_read 2 (some .long) ∈ am_tb := List.mem_filter.mpr ⟨List.mem_of_getElem? (i := 368) rfl, rfl⟩
set_option maxRecDepth 20000 in
theorem am_cw_X2_write : Cond.code yX2_write cX2_write 4 none ∈ am_tb := List.mem_filter.mpr ⟨List.mem_of_getElem? (i := 261) rfl, rfl⟩
set_option maxRecDepth 20000 in
theorem am_cw_X2_moveCells : Cond.code yX2_moveCells cX2_moveCells 4 none ∈ am_tb := List.mem_filter.mpr ⟨List.mem_of_getElem? (i := 292) rfl, rfl⟩
set_option maxRecDepth 20000 in
theorem am_cw_X2_swapCells : Cond.code yX2_swapCells cX2_swapCells 7 none ∈ am_tb := List.mem_filter.mpr ⟨List.mem_of_getElem? (i := 505) rfl, rfl⟩
set_option maxRecDepth 20000 in
theorem am_cw_X2_areCells : Cond.code yX2_areCells cX2_areCells 2 (some .boolean) ∈ am_tb := List.mem_filter.mpr ⟨List.mem_of_getElem? (i := 264) rfl, rfl⟩
set_option maxRecDepth 20000 in
theorem am_cw_X2_boxesThere : Cond.code yX2_boxesThere cX2_boxesThere 1 (some .int) ∈ am_tb := List.mem_filter.mpr ⟨List.mem_of_getElem? (i := 321) rfl, rfl⟩
set_option maxRecDepth 20000 in
theorem am_cw_X2_rowsThere : Cond.code yX2_rowsThere cX2_rowsThere 1 (some .int) ∈ am_tb := List.mem_filter.mpr ⟨List.mem_of_getElem? (i := 348) rfl, rfl⟩
set_option maxRecDepth 20000 in
theorem am_cw_X2_takeBox : Cond.code yX2_takeBox cX2_takeBox 2 (some .int) ∈ am_tb := List.mem_filter.mpr ⟨List.mem_of_getElem? (i := 325) rfl, rfl⟩
set_option maxRecDepth 20000 in
theorem am_cw_X2_takeRow : Cond.code yX2_takeRow cX2_takeRow 3 (some .int) ∈ am_tb := List.mem_filter.mpr ⟨List.mem_of_getElem? (i := 352) rfl, rfl⟩
set_option maxRecDepth 20000 in
theorem am_cw_X2_firstFree : Cond.code yX2_firstFree cX2_firstFree 2 (some .int) ∈ am_tb := List.mem_filter.mpr ⟨List.mem_of_getElem? (i := 328) rfl, rfl⟩
set_option maxRecDepth 20000 in
theorem am_cw_X2_freeBox : Cond.code yX2_freeBox cX2_freeBox 3 none ∈ am_tb := List.mem_filter.mpr ⟨List.mem_of_getElem? (i := 372) rfl, rfl⟩
set_option maxRecDepth 20000 in
theorem am_cw_X2_freeRow : Cond.code yX2_freeRow cX2_freeRow 3 none ∈ am_tb := List.mem_filter.mpr ⟨List.mem_of_getElem? (i := 427) rfl, rfl⟩
set_option maxRecDepth 20000 in
theorem am_cw_X2_isBox : Cond.code yX2_isBox cX2_isBox 2 (some .boolean) ∈ am_tb := List.mem_filter.mpr ⟨List.mem_of_getElem? (i := 335) rfl, rfl⟩
set_option maxRecDepth 20000 in
theorem am_cw_X2_isRow : Cond.code yX2_isRow cX2_isRow 2 (some .boolean) ∈ am_tb := List.mem_filter.mpr ⟨List.mem_of_getElem? (i := 359) rfl, rfl⟩
set_option maxRecDepth 20000 in
theorem am_cw_X2_boxAt : Cond.code yX2_boxAt cX2_boxAt 3 (some .int) ∈ am_tb := List.mem_filter.mpr ⟨List.mem_of_getElem? (i := 332) rfl, rfl⟩
set_option maxRecDepth 20000 in
theorem am_cw_X2_elementAt : Cond.code yX2_elementAt cX2_elementAt 4 (some .int) ∈ am_tb := List.mem_filter.mpr ⟨List.mem_of_getElem? (i := 356) rfl, rfl⟩
set_option maxRecDepth 20000 in
theorem am_cw_X2_lengthOf : Cond.code yX2_lengthOf cX2_lengthOf 3 (some .int) ∈ am_tb := List.mem_filter.mpr ⟨List.mem_of_getElem? (i := 431) rfl, rfl⟩
set_option maxRecDepth 20000 in
theorem am_cw_X2_setLength : Cond.code yX2_setLength cX2_setLength 4 none ∈ am_tb := List.mem_filter.mpr ⟨List.mem_of_getElem? (i := 513) rfl, rfl⟩
set_option maxRecDepth 20000 in
theorem am_cw_X3_init : Cond.code yX3_init cX3_init 1 none ∈ am_tb := List.mem_filter.mpr ⟨List.mem_of_getElem? (i := 60) rfl, rfl⟩
set_option maxRecDepth 20000 in
theorem am_cw_X3_add : Cond.code yX3_add cX3_add 6 (some .int) ∈ am_tb := List.mem_filter.mpr ⟨List.mem_of_getElem? (i := 65) rfl, rfl⟩
set_option maxRecDepth 20000 in
theorem am_cw_X3_tieLooseBox : Cond.code yX3_tieLooseBox cX3_tieLooseBox 3 (some .boolean) ∈ am_tb := List.mem_filter.mpr ⟨List.mem_of_getElem? (i := 212) rfl, rfl⟩
set_option maxRecDepth 20000 in
theorem am_cw_X3_howMany : Cond.code yX3_howMany cX3_howMany 1 (some .int) ∈ am_tb := List.mem_filter.mpr ⟨List.mem_of_getElem? (i := 573) rfl, rfl⟩
set_option maxRecDepth 20000 in
theorem am_cw_X3_has : Cond.code yX3_has cX3_has 2 (some .boolean) ∈ am_tb := List.mem_filter.mpr ⟨List.mem_of_getElem? (i := 183) rfl, rfl⟩
set_option maxRecDepth 20000 in
theorem am_cw_X3_hasOrNone : Cond.code yX3_hasOrNone cX3_hasOrNone 2 (some .boolean) ∈ am_tb := List.mem_filter.mpr ⟨List.mem_of_getElem? (i := 187) rfl, rfl⟩
set_option maxRecDepth 20000 in
theorem am_cw_X3_kindOf : Cond.code yX3_kindOf cX3_kindOf 2 (some .int) ∈ am_tb := List.mem_filter.mpr ⟨List.mem_of_getElem? (i := 216) rfl, rfl⟩
set_option maxRecDepth 20000 in
theorem am_cw_X3_sizeOf : Cond.code yX3_sizeOf cX3_sizeOf 2 (some .int) ∈ am_tb := List.mem_filter.mpr ⟨List.mem_of_getElem? (i := 192) rfl, rfl⟩
set_option maxRecDepth 20000 in
theorem am_cw_X3_partOf : Cond.code yX3_partOf cX3_partOf 3 (some .int) ∈ am_tb := List.mem_filter.mpr ⟨List.mem_of_getElem? (i := 220) rfl, rfl⟩
set_option maxRecDepth 20000 in
theorem am_cw_X3_partsOf : Cond.code yX3_partsOf cX3_partsOf 4 (some .int) ∈ am_tb := List.mem_filter.mpr ⟨List.mem_of_getElem? (i := 276) rfl, rfl⟩
set_option maxRecDepth 20000 in
theorem am_cw_X3_offsetOf : Cond.code yX3_offsetOf cX3_offsetOf 5 (some .int) ∈ am_tb := List.mem_filter.mpr ⟨List.mem_of_getElem? (i := 483) rfl, rfl⟩
set_option maxRecDepth 20000 in
theorem am_cw_X4_init : Cond.code yX4_init cX4_init 1 none ∈ am_tb := List.mem_filter.mpr ⟨List.mem_of_getElem? (i := 52) rfl, rfl⟩
set_option maxRecDepth 20000 in
theorem am_cw_X4_record : Cond.code yX4_record cX4_record 6 (some .int) ∈ am_tb := List.mem_filter.mpr ⟨List.mem_of_getElem? (i := 179) rfl, rfl⟩
set_option maxRecDepth 20000 in
theorem am_cw_X4_choice : Cond.code yX4_choice cX4_choice 5 (some .int) ∈ am_tb := List.mem_filter.mpr ⟨List.mem_of_getElem? (i := 197) rfl, rfl⟩
set_option maxRecDepth 20000 in
theorem am_cw_X4_box : Cond.code yX4_box cX4_box 2 (some .int) ∈ am_tb := List.mem_filter.mpr ⟨List.mem_of_getElem? (i := 204) rfl, rfl⟩
set_option maxRecDepth 20000 in
theorem am_cw_X4_tie : Cond.code yX4_tie cX4_tie 3 (some .int) ∈ am_tb := List.mem_filter.mpr ⟨List.mem_of_getElem? (i := 208) rfl, rfl⟩
set_option maxRecDepth 20000 in
theorem am_cw_X4_row : Cond.code yX4_row cX4_row 2 (some .int) ∈ am_tb := List.mem_filter.mpr ⟨List.mem_of_getElem? (i := 224) rfl, rfl⟩
set_option maxRecDepth 20000 in
theorem am_cw_X4_about : Cond.code yX4_about cX4_about 3 (some .int) ∈ am_tb := List.mem_filter.mpr ⟨List.mem_of_getElem? (i := 228) rfl, rfl⟩
set_option maxRecDepth 20000 in
theorem am_cw_X4_number : Cond.code yX4_number cX4_number 3 (some .int) ∈ am_tb := List.mem_filter.mpr ⟨List.mem_of_getElem? (i := 234) rfl, rfl⟩
set_option maxRecDepth 20000 in
theorem am_cw_X4_make : Cond.code yX4_make cX4_make 3 (some .int) ∈ am_tb := List.mem_filter.mpr ⟨List.mem_of_getElem? (i := 268) rfl, rfl⟩
set_option maxRecDepth 20000 in
theorem am_cw_X4_gather : Cond.code yX4_gather cX4_gather 5 (some .int) ∈ am_tb := List.mem_filter.mpr ⟨List.mem_of_getElem? (i := 340) rfl, rfl⟩
set_option maxRecDepth 20000 in
theorem am_cw_X4_open : Cond.code yX4_open cX4_open 5 (some .int) ∈ am_tb := List.mem_filter.mpr ⟨List.mem_of_getElem? (i := 364) rfl, rfl⟩
set_option maxRecDepth 20000 in
theorem am_cw_X4_apart : Cond.code yX4_apart cX4_apart 2 (some .int) ∈ am_tb := List.mem_filter.mpr ⟨List.mem_of_getElem? (i := 376) rfl, rfl⟩
set_option maxRecDepth 20000 in
theorem am_cw_X4_drop : Cond.code yX4_drop cX4_drop 2 (some .int) ∈ am_tb := List.mem_filter.mpr ⟨List.mem_of_getElem? (i := 388) rfl, rfl⟩
set_option maxRecDepth 20000 in
theorem am_cw_X4_store : Cond.code yX4_store cX4_store 4 (some .int) ∈ am_tb := List.mem_filter.mpr ⟨List.mem_of_getElem? (i := 436) rfl, rfl⟩
set_option maxRecDepth 20000 in
theorem am_cw_X4_load : Cond.code yX4_load cX4_load 4 (some .int) ∈ am_tb := List.mem_filter.mpr ⟨List.mem_of_getElem? (i := 462) rfl, rfl⟩
set_option maxRecDepth 20000 in
theorem am_cw_X4_set : Cond.code yX4_set cX4_set 4 (some .int) ∈ am_tb := List.mem_filter.mpr ⟨List.mem_of_getElem? (i := 466) rfl, rfl⟩
set_option maxRecDepth 20000 in
theorem am_cw_X4_swap : Cond.code yX4_swap cX4_swap 4 (some .int) ∈ am_tb := List.mem_filter.mpr ⟨List.mem_of_getElem? (i := 501) rfl, rfl⟩
set_option maxRecDepth 20000 in
theorem am_cw_X4_push : Cond.code yX4_push cX4_push 8 (some .int) ∈ am_tb := List.mem_filter.mpr ⟨List.mem_of_getElem? (i := 509) rfl, rfl⟩
set_option maxRecDepth 20000 in
theorem am_cw_X4_pop : Cond.code yX4_pop cX4_pop 8 (some .int) ∈ am_tb := List.mem_filter.mpr ⟨List.mem_of_getElem? (i := 517) rfl, rfl⟩
set_option maxRecDepth 20000 in
theorem am_cw_X4_enter : Cond.code yX4_enter cX4_enter 6 (some .int) ∈ am_tb := List.mem_filter.mpr ⟨List.mem_of_getElem? (i := 521) rfl, rfl⟩
set_option maxRecDepth 20000 in
theorem am_cw_X4_leave : Cond.code yX4_leave cX4_leave 4 (some .int) ∈ am_tb := List.mem_filter.mpr ⟨List.mem_of_getElem? (i := 533) rfl, rfl⟩
set_option maxRecDepth 20000 in
theorem am_cw_X4_fail : Cond.code yX4_fail cX4_fail 3 (some .int) ∈ am_tb := List.mem_filter.mpr ⟨List.mem_of_getElem? (i := 545) rfl, rfl⟩
set_option maxRecDepth 20000 in
theorem am_cw_X4_shape : Cond.code yX4_shape cX4_shape 3 (some .int) ∈ am_tb := List.mem_filter.mpr ⟨List.mem_of_getElem? (i := 549) rfl, rfl⟩
set_option maxRecDepth 20000 in
theorem am_cw_X4_look : Cond.code yX4_look cX4_look 3 (some .long) ∈ am_tb := List.mem_filter.mpr ⟨List.mem_of_getElem? (i := 553) rfl, rfl⟩
set_option maxRecDepth 20000 in
theorem am_cw_X4_state : Cond.code yX4_state cX4_state 3 (some .int) ∈ am_tb := List.mem_filter.mpr ⟨List.mem_of_getElem? (i := 557) rfl, rfl⟩
set_option maxRecDepth 20000 in
theorem am_cw_X4_out : Cond.code yX4_out cX4_out 2 (some .long) ∈ am_tb := List.mem_filter.mpr ⟨List.mem_of_getElem? (i := 561) rfl, rfl⟩
set_option maxRecDepth 20000 in
theorem am_cw_X4_count : Cond.code yX4_count cX4_count 2 (some .int) ∈ am_tb := List.mem_filter.mpr ⟨List.mem_of_getElem? (i := 569) rfl, rfl⟩
set_option maxRecDepth 20000 in
theorem am_cw_X4_layOneCell : Cond.code yX4_layOneCell cX4_layOneCell 4 (some .int) ∈ am_tb := List.mem_filter.mpr ⟨List.mem_of_getElem? (i := 238) rfl, rfl⟩
set_option maxRecDepth 20000 in
theorem am_cw_X4_makeRecord : Cond.code yX4_makeRecord cX4_makeRecord 7 (some .int) ∈ am_tb := List.mem_filter.mpr ⟨List.mem_of_getElem? (i := 272) rfl, rfl⟩
set_option maxRecDepth 20000 in
theorem am_cw_X4_handEndsWithFieldsOf : Cond.code yX4_handEndsWithFieldsOf cX4_handEndsWithFieldsOf 5 (some .boolean) ∈ am_tb := List.mem_filter.mpr ⟨List.mem_of_getElem? (i := 280) rfl, rfl⟩
set_option maxRecDepth 20000 in
theorem am_cw_X4_makeChoice : Cond.code yX4_makeChoice cX4_makeChoice 4 (some .int) ∈ am_tb := List.mem_filter.mpr ⟨List.mem_of_getElem? (i := 303) rfl, rfl⟩
set_option maxRecDepth 20000 in
theorem am_cw_X4_makeBox : Cond.code yX4_makeBox cX4_makeBox 4 (some .int) ∈ am_tb := List.mem_filter.mpr ⟨List.mem_of_getElem? (i := 317) rfl, rfl⟩
set_option maxRecDepth 20000 in
theorem am_cw_X4_takeRecordApart : Cond.code yX4_takeRecordApart cX4_takeRecordApart 7 (some .int) ∈ am_tb := List.mem_filter.mpr ⟨List.mem_of_getElem? (i := 380) rfl, rfl⟩
set_option maxRecDepth 20000 in
theorem am_cw_X4_takeChoiceApart : Cond.code yX4_takeChoiceApart cX4_takeChoiceApart 3 (some .int) ∈ am_tb := List.mem_filter.mpr ⟨List.mem_of_getElem? (i := 384) rfl, rfl⟩
set_option maxRecDepth 20000 in
theorem am_cw_X4_replaceTopShape : Cond.code yX4_replaceTopShape cX4_replaceTopShape 2 none ∈ am_tb := List.mem_filter.mpr ⟨List.mem_of_getElem? (i := 313) rfl, rfl⟩
set_option maxRecDepth 20000 in
theorem am_cw_X4_handAt : Cond.code yX4_handAt cX4_handAt 1 (some .int) ∈ am_tb := List.mem_filter.mpr ⟨List.mem_of_getElem? (i := 257) rfl, rfl⟩
set_option maxRecDepth 20000 in
theorem am_cw_X4_slotAt : Cond.code yX4_slotAt cX4_slotAt 2 (some .int) ∈ am_tb := List.mem_filter.mpr ⟨List.mem_of_getElem? (i := 454) rfl, rfl⟩
set_option maxRecDepth 20000 in
theorem am_cw_X4_isSlot : Cond.code yX4_isSlot cX4_isSlot 1 (some .boolean) ∈ am_tb := List.mem_filter.mpr ⟨List.mem_of_getElem? (i := 439) rfl, rfl⟩
set_option maxRecDepth 20000 in
theorem am_cw_X4_topAt : Cond.code yX4_topAt cX4_topAt 1 (some .int) ∈ am_tb := List.mem_filter.mpr ⟨List.mem_of_getElem? (i := 250) rfl, rfl⟩
set_option maxRecDepth 20000 in
theorem am_cw_X4_seek : Cond.code yX4_seek cX4_seek 6 (some .int) ∈ am_tb := List.mem_filter.mpr ⟨List.mem_of_getElem? (i := 470) rfl, rfl⟩
set_option maxRecDepth 20000 in
theorem am_cw_X4_step : Cond.code yX4_step cX4_step 3 (some .int) ∈ am_tb := List.mem_filter.mpr ⟨List.mem_of_getElem? (i := 475) rfl, rfl⟩
set_option maxRecDepth 20000 in
theorem am_cw_X4_stepToField : Cond.code yX4_stepToField cX4_stepToField 3 (some .int) ∈ am_tb := List.mem_filter.mpr ⟨List.mem_of_getElem? (i := 479) rfl, rfl⟩
set_option maxRecDepth 20000 in
theorem am_cw_X4_stepToPart : Cond.code yX4_stepToPart cX4_stepToPart 3 (some .int) ∈ am_tb := List.mem_filter.mpr ⟨List.mem_of_getElem? (i := 488) rfl, rfl⟩
set_option maxRecDepth 20000 in
theorem am_cw_X4_stepIntoBox : Cond.code yX4_stepIntoBox cX4_stepIntoBox 2 (some .int) ∈ am_tb := List.mem_filter.mpr ⟨List.mem_of_getElem? (i := 492) rfl, rfl⟩
set_option maxRecDepth 20000 in
theorem am_cw_X4_stepToElement : Cond.code yX4_stepToElement cX4_stepToElement 5 (some .int) ∈ am_tb := List.mem_filter.mpr ⟨List.mem_of_getElem? (i := 496) rfl, rfl⟩
set_option maxRecDepth 20000 in
theorem am_cw_X4_endLastFrame : Cond.code yX4_endLastFrame cX4_endLastFrame 5 none ∈ am_tb := List.mem_filter.mpr ⟨List.mem_of_getElem? (i := 537) rfl, rfl⟩
set_option maxRecDepth 20000 in
theorem am_cw_X5_init : Cond.code yX5_init cX5_init 2 none ∈ am_tb := List.mem_filter.mpr ⟨List.mem_of_getElem? (i := 590) rfl, rfl⟩
set_option maxRecDepth 20000 in
theorem am_cw_X5_in : Cond.code yX5_in cX5_in 3 (some .boolean) ∈ am_tb := List.mem_filter.mpr ⟨List.mem_of_getElem? (i := 672) rfl, rfl⟩
set_option maxRecDepth 20000 in
theorem am_cw_X5_isShape : Cond.code yX5_isShape cX5_isShape 2 (some .boolean) ∈ am_tb := List.mem_filter.mpr ⟨List.mem_of_getElem? (i := 669) rfl, rfl⟩
set_option maxRecDepth 20000 in
theorem am_cw_X5_come : Cond.code yX5_come cX5_come 6 (some .int) ∈ am_tb := List.mem_filter.mpr ⟨List.mem_of_getElem? (i := 680) rfl, rfl⟩
set_option maxRecDepth 20000 in
theorem am_cw_X5_sizeOf : Cond.code yX5_sizeOf cX5_sizeOf 2 (some .int) ∈ am_tb := List.mem_filter.mpr ⟨List.mem_of_getElem? (i := 676) rfl, rfl⟩
set_option maxRecDepth 20000 in
theorem am_cw_X5_record : Cond.code yX5_record cX5_record 5 (some .int) ∈ am_tb := List.mem_filter.mpr ⟨List.mem_of_getElem? (i := 665) rfl, rfl⟩
set_option maxRecDepth 20000 in
theorem am_cw_X5_choice : Cond.code yX5_choice cX5_choice 4 (some .int) ∈ am_tb := List.mem_filter.mpr ⟨List.mem_of_getElem? (i := 684) rfl, rfl⟩
set_option maxRecDepth 20000 in
theorem am_cw_X5_box : Cond.code yX5_box cX5_box 2 (some .int) ∈ am_tb := List.mem_filter.mpr ⟨List.mem_of_getElem? (i := 689) rfl, rfl⟩
set_option maxRecDepth 20000 in
theorem am_cw_X5_tie : Cond.code yX5_tie cX5_tie 3 (some .int) ∈ am_tb := List.mem_filter.mpr ⟨List.mem_of_getElem? (i := 693) rfl, rfl⟩
set_option maxRecDepth 20000 in
theorem am_cw_X5_row : Cond.code yX5_row cX5_row 2 (some .int) ∈ am_tb := List.mem_filter.mpr ⟨List.mem_of_getElem? (i := 697) rfl, rfl⟩
set_option maxRecDepth 20000 in
theorem am_cw_X5_about : Cond.code yX5_about cX5_about 3 (some .int) ∈ am_tb := List.mem_filter.mpr ⟨List.mem_of_getElem? (i := 701) rfl, rfl⟩
set_option maxRecDepth 20000 in
theorem am_cw_X5_node : Cond.code yX5_node cX5_node 6 (some .int) ∈ am_tb := List.mem_filter.mpr ⟨List.mem_of_getElem? (i := 709) rfl, rfl⟩
set_option maxRecDepth 20000 in
theorem am_cw_X5_grow : Cond.code yX5_grow cX5_grow 6 none ∈ am_tb := List.mem_filter.mpr ⟨List.mem_of_getElem? (i := 713) rfl, rfl⟩
set_option maxRecDepth 20000 in
theorem am_cw_X5_free : Cond.code yX5_free cX5_free 2 none ∈ am_tb := List.mem_filter.mpr ⟨List.mem_of_getElem? (i := 753) rfl, rfl⟩
set_option maxRecDepth 20000 in
theorem am_cw_X5_kindOf : Cond.code yX5_kindOf cX5_kindOf 2 (some .int) ∈ am_tb := List.mem_filter.mpr ⟨List.mem_of_getElem? (i := 749) rfl, rfl⟩
set_option maxRecDepth 20000 in
theorem am_cw_X5_dropped : Cond.code yX5_dropped cX5_dropped 4 none ∈ am_tb := List.mem_filter.mpr ⟨List.mem_of_getElem? (i := 765) rfl, rfl⟩
set_option maxRecDepth 20000 in
theorem am_cw_X5_mine : Cond.code yX5_mine cX5_mine 1 (some .int) ∈ am_tb := List.mem_filter.mpr ⟨List.mem_of_getElem? (i := 729) rfl, rfl⟩
set_option maxRecDepth 20000 in
theorem am_cw_X5_top : Cond.code yX5_top cX5_top 2 (some .int) ∈ am_tb := List.mem_filter.mpr ⟨List.mem_of_getElem? (i := 733) rfl, rfl⟩
set_option maxRecDepth 20000 in
theorem am_cw_X5_slot : Cond.code yX5_slot cX5_slot 2 (some .int) ∈ am_tb := List.mem_filter.mpr ⟨List.mem_of_getElem? (i := 773) rfl, rfl⟩
set_option maxRecDepth 20000 in
theorem am_cw_X5_find : Cond.code yX5_find cX5_find 8 (some .int) ∈ am_tb := List.mem_filter.mpr ⟨List.mem_of_getElem? (i := 785) rfl, rfl⟩
set_option maxRecDepth 20000 in
theorem am_cw_X5_put : Cond.code yX5_put cX5_put 2 none ∈ am_tb := List.mem_filter.mpr ⟨List.mem_of_getElem? (i := 790) rfl, rfl⟩
set_option maxRecDepth 20000 in
theorem am_cw_X5_comes : Cond.code yX5_comes cX5_comes 2 (some .int) ∈ am_tb := List.mem_filter.mpr ⟨List.mem_of_getElem? (i := 717) rfl, rfl⟩
set_option maxRecDepth 20000 in
theorem am_cw_X5_number : Cond.code yX5_number cX5_number 3 (some .int) ∈ am_tb := List.mem_filter.mpr ⟨List.mem_of_getElem? (i := 705) rfl, rfl⟩
set_option maxRecDepth 20000 in
theorem am_cw_X5_parts : Cond.code yX5_parts cX5_parts 3 (some .int) ∈ am_tb := List.mem_filter.mpr ⟨List.mem_of_getElem? (i := 725) rfl, rfl⟩
set_option maxRecDepth 20000 in
theorem am_cw_X5_wrap : Cond.code yX5_wrap cX5_wrap 7 (some .int) ∈ am_tb := List.mem_filter.mpr ⟨List.mem_of_getElem? (i := 737) rfl, rfl⟩
set_option maxRecDepth 20000 in
theorem am_cw_X5_make : Cond.code yX5_make cX5_make 5 (some .int) ∈ am_tb := List.mem_filter.mpr ⟨List.mem_of_getElem? (i := 721) rfl, rfl⟩
set_option maxRecDepth 20000 in
theorem am_cw_X5_gather : Cond.code yX5_gather cX5_gather 4 (some .int) ∈ am_tb := List.mem_filter.mpr ⟨List.mem_of_getElem? (i := 741) rfl, rfl⟩
set_option maxRecDepth 20000 in
theorem am_cw_X5_open : Cond.code yX5_open cX5_open 2 (some .int) ∈ am_tb := List.mem_filter.mpr ⟨List.mem_of_getElem? (i := 745) rfl, rfl⟩
set_option maxRecDepth 20000 in
theorem am_cw_X5_apart : Cond.code yX5_apart cX5_apart 4 (some .int) ∈ am_tb := List.mem_filter.mpr ⟨List.mem_of_getElem? (i := 757) rfl, rfl⟩
set_option maxRecDepth 20000 in
theorem am_cw_X5_drop : Cond.code yX5_drop cX5_drop 1 (some .int) ∈ am_tb := List.mem_filter.mpr ⟨List.mem_of_getElem? (i := 761) rfl, rfl⟩
set_option maxRecDepth 20000 in
theorem am_cw_X5_store : Cond.code yX5_store cX5_store 2 (some .int) ∈ am_tb := List.mem_filter.mpr ⟨List.mem_of_getElem? (i := 769) rfl, rfl⟩
set_option maxRecDepth 20000 in
theorem am_cw_X5_load : Cond.code yX5_load cX5_load 3 (some .int) ∈ am_tb := List.mem_filter.mpr ⟨List.mem_of_getElem? (i := 777) rfl, rfl⟩
set_option maxRecDepth 20000 in
theorem am_cw_X5_set : Cond.code yX5_set cX5_set 4 (some .int) ∈ am_tb := List.mem_filter.mpr ⟨List.mem_of_getElem? (i := 781) rfl, rfl⟩
set_option maxRecDepth 20000 in
theorem am_cw_X5_swap : Cond.code yX5_swap cX5_swap 4 (some .int) ∈ am_tb := List.mem_filter.mpr ⟨List.mem_of_getElem? (i := 794) rfl, rfl⟩
set_option maxRecDepth 20000 in
theorem am_cw_X5_push : Cond.code yX5_push cX5_push 4 (some .int) ∈ am_tb := List.mem_filter.mpr ⟨List.mem_of_getElem? (i := 798) rfl, rfl⟩
set_option maxRecDepth 20000 in
theorem am_cw_X5_pop : Cond.code yX5_pop cX5_pop 6 (some .int) ∈ am_tb := List.mem_filter.mpr ⟨List.mem_of_getElem? (i := 803) rfl, rfl⟩
set_option maxRecDepth 20000 in
theorem am_cw_X5_enter : Cond.code yX5_enter cX5_enter 3 (some .int) ∈ am_tb := List.mem_filter.mpr ⟨List.mem_of_getElem? (i := 807) rfl, rfl⟩
set_option maxRecDepth 20000 in
theorem am_cw_X5_empty : Cond.code yX5_empty cX5_empty 2 none ∈ am_tb := List.mem_filter.mpr ⟨List.mem_of_getElem? (i := 815) rfl, rfl⟩
set_option maxRecDepth 20000 in
theorem am_cw_X5_leave : Cond.code yX5_leave cX5_leave 4 (some .int) ∈ am_tb := List.mem_filter.mpr ⟨List.mem_of_getElem? (i := 811) rfl, rfl⟩
set_option maxRecDepth 20000 in
theorem am_cw_X5_fail : Cond.code yX5_fail cX5_fail 2 (some .int) ∈ am_tb := List.mem_filter.mpr ⟨List.mem_of_getElem? (i := 819) rfl, rfl⟩
set_option maxRecDepth 20000 in
theorem am_cw_X5_shape : Cond.code yX5_shape cX5_shape 4 (some .int) ∈ am_tb := List.mem_filter.mpr ⟨List.mem_of_getElem? (i := 823) rfl, rfl⟩
set_option maxRecDepth 20000 in
theorem am_cw_X5_look : Cond.code yX5_look cX5_look 4 (some .long) ∈ am_tb := List.mem_filter.mpr ⟨List.mem_of_getElem? (i := 827) rfl, rfl⟩
set_option maxRecDepth 20000 in
theorem am_cw_X5_state : Cond.code yX5_state cX5_state 4 (some .int) ∈ am_tb := List.mem_filter.mpr ⟨List.mem_of_getElem? (i := 831) rfl, rfl⟩
set_option maxRecDepth 20000 in
theorem am_cw_X5_out : Cond.code yX5_out cX5_out 2 (some .long) ∈ am_tb := List.mem_filter.mpr ⟨List.mem_of_getElem? (i := 835) rfl, rfl⟩
set_option maxRecDepth 20000 in
theorem am_cw_X5_count : Cond.code yX5_count cX5_count 4 (some .int) ∈ am_tb := List.mem_filter.mpr ⟨List.mem_of_getElem? (i := 839) rfl, rfl⟩
