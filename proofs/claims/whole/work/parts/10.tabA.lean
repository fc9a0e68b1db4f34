def am_vb (o : Nat) (ini : Bool) (rt : Option FieldType) (cc : ByteArray) : List am_I → Nat → Bool
  | [], _ => true
  | [e], nx => am_vi o ini rt cc e nx
  | e :: e' :: r, nx => am_vi o ini rt cc e e'.1 && am_vb o ini rt cc (e' :: r) nx
theorem am_vb_vl {o : Nat} {ini : Bool} {rt : Option FieldType} {cc : ByteArray} {nx : Nat} {tl : List am_I} (ht : am_pc tl = nx) (hv : am_vl o ini rt cc tl = true) : ∀ es : List am_I, am_vb o ini rt cc es nx = true → am_vl o ini rt cc (es ++ tl) = true
  | [], _ => hv
  | [e], h => by
    show am_vl o ini rt cc (e :: tl) = true
    simp only [am_vl, Bool.and_eq_true]
    exact ⟨by rw [ht]; exact h, hv⟩
  | e :: e' :: r, h => by
    simp only [am_vb, Bool.and_eq_true] at h
    show am_vl o ini rt cc (e :: (e' :: r ++ tl)) = true
    rw [am_vl, Bool.and_eq_true]
    exact ⟨h.1, am_vb_vl ht hv (e' :: r) h.2⟩
theorem am_vt {o : Nat} {ini : Bool} {rt : Option FieldType} {cc : ByteArray} {bl tl : List am_I} (n nx : Nat) (h : am_vb o ini rt cc (bl.take n) nx = true) (hd : bl.drop n = tl) (ht : am_pc tl = nx) (hv : am_vl o ini rt cc tl = true) : am_vl o ini rt cc bl = true := by
  rw [← List.take_append_drop n bl, hd]
  exact am_vb_vl ht hv _ h
def B0_init_44 : List am_I := (44, .putfield 33, 0, 1, .null, []) :: (47, .return_, 0, 0, .null, []) :: []
def B0_init_0 : List am_I := (0, .aload_n 0, 0, 0, .null, []) :: (1, .invokespecial 3, 0, 0, .null, []) :: (4, .aload_n 0, 0, 0, .null, []) :: (5, .sipush 808, 0, 0, .int 808, []) :: (8, .newarray .int, 0, 0, .null, []) :: (10, .putfield 11, 0, 2, .null, []) :: (13, .aload_n 0, 0, 0, .null, []) :: (14, .sipush 400, 0, 0, .int 400, []) :: (17, .newarray .long, 0, 0, .null, []) :: (19, .putfield 15, 0, 3, .null, []) :: (22, .aload_n 0, 0, 0, .null, []) :: (23, .iconst 0, 0, 0, .int 0, []) :: (24, .putfield 19, 0, 4, .null, []) :: (27, .aload_n 0, 0, 0, .null, []) :: (28, .iconst 0, 0, 0, .int 0, []) :: (29, .putfield 23, 0, 5, .null, []) :: (32, .aload_n 0, 0, 0, .null, []) :: (33, .iconst 0, 0, 0, .int 0, []) :: (34, .putfield 26, 0, 6, .null, []) :: (37, .aload_n 0, 0, 0, .null, []) :: (38, .aload_n 1, 0, 0, .null, []) :: (39, .putfield 29, 0, 0, .null, []) :: (42, .aload_n 0, 0, 0, .null, []) :: (43, .aload_n 2, 0, 0, .null, []) :: B0_init_44
set_option maxRecDepth 20000 in
theorem vB0_init_44 : am_vl 0 true none cX0_init B0_init_44 = true := am_vt (tl := []) 2 0 (by decide +kernel) rfl rfl rfl
set_option maxRecDepth 20000 in
theorem vB0_init_0 : am_vl 0 true none cX0_init B0_init_0 = true := am_vt (tl := B0_init_44) 24 44 (by decide +kernel) rfl rfl vB0_init_44
def B0_toldDropped_0 : List am_I := (0, .aload_n 0, 0, 0, .null, []) :: (1, .getfield 26, 0, 6, .null, []) :: (4, .ireturn, 0, 0, .null, []) :: []
set_option maxRecDepth 20000 in
theorem vB0_toldDropped_0 : am_vl 0 false (some .int) cX0_toldDropped B0_toldDropped_0 = true := am_vt (tl := []) 3 0 (by decide +kernel) rfl rfl rfl
def B0_outLength_0 : List am_I := (0, .aload_n 0, 0, 0, .null, []) :: (1, .getfield 23, 0, 5, .null, []) :: (4, .ireturn, 0, 0, .null, []) :: []
set_option maxRecDepth 20000 in
theorem vB0_outLength_0 : am_vl 0 false (some .int) cX0_outLength B0_outLength_0 = true := am_vt (tl := []) 3 0 (by decide +kernel) rfl rfl rfl
def B0_toldAs_22 : List am_I := (22, .lreturn, 0, 0, .null, []) :: []
def B0_toldAs_21 : List am_I := (21, .lconst 0, 0, 0, .long 0, []) :: B0_toldAs_22
def B0_toldAs_0 : List am_I := (0, .iload_n 1, 0, 0, .null, []) :: (1, .ifCond .lt 20, 21, 0, .null, []) :: (4, .iload_n 1, 0, 0, .null, []) :: (5, .aload_n 0, 0, 0, .null, []) :: (6, .getfield 23, 0, 5, .null, []) :: (9, .if_icmp .ge 12, 21, 0, .null, []) :: (12, .aload_n 0, 0, 0, .null, []) :: (13, .getfield 15, 0, 3, .null, []) :: (16, .iload_n 1, 0, 0, .null, []) :: (17, .laload, 0, 0, .null, []) :: (18, .goto 4, 22, 0, .null, []) :: B0_toldAs_21
set_option maxRecDepth 20000 in
theorem vB0_toldAs_22 : am_vl 0 false (some .long) cX0_toldAs B0_toldAs_22 = true := am_vt (tl := []) 1 0 (by decide +kernel) rfl rfl rfl
set_option maxRecDepth 20000 in
theorem vB0_toldAs_21 : am_vl 0 false (some .long) cX0_toldAs B0_toldAs_21 = true := am_vt (tl := B0_toldAs_22) 1 22 (by decide +kernel) rfl rfl vB0_toldAs_22
set_option maxRecDepth 20000 in
theorem vB0_toldAs_0 : am_vl 0 false (some .long) cX0_toldAs B0_toldAs_0 = true := am_vt (tl := B0_toldAs_21) 11 21 (by decide +kernel) rfl rfl vB0_toldAs_21
def B0_dropValue_70 : List am_I := (70, .return_, 0, 0, .null, []) :: []
def B0_dropValue_57 : List am_I := (57, .iaload, 0, 0, .null, []) :: (58, .bipush 24, 0, 0, .int 24, []) :: (60, .idiv, 0, 0, .null, []) :: (61, .invokevirtual 42, 6, 2, .ref 0, []) :: (64, .iinc 3 1, 0, 0, .int 1, []) :: (67, .goto (-54), 13, 0, .null, []) :: B0_dropValue_70
def B0_dropValue_13 : List am_I := (13, .aload_n 0, 0, 0, .null, []) :: (14, .getfield 19, 0, 4, .null, []) :: (17, .ifCond .le 53, 70, 0, .null, []) :: (20, .iload_n 3, 0, 0, .null, []) :: (21, .ldc 41, 0, 0, .int 1000000, []) :: (23, .if_icmp .ge 47, 70, 0, .null, []) :: (26, .aload_n 0, 0, 0, .null, []) :: (27, .dup, 0, 0, .null, []) :: (28, .getfield 19, 0, 4, .null, []) :: (31, .iconst 1, 0, 0, .int 1, []) :: (32, .isub, 0, 0, .null, []) :: (33, .putfield 19, 0, 4, .null, []) :: (36, .aload_n 0, 0, 0, .null, []) :: (37, .aload_n 0, 0, 0, .null, []) :: (38, .getfield 11, 0, 2, .null, []) :: (41, .aload_n 0, 0, 0, .null, []) :: (42, .getfield 19, 0, 4, .null, []) :: (45, .iaload, 0, 0, .null, []) :: (46, .bipush 24, 0, 0, .int 24, []) :: (48, .irem, 0, 0, .null, []) :: (49, .aload_n 0, 0, 0, .null, []) :: (50, .getfield 11, 0, 2, .null, []) :: (53, .aload_n 0, 0, 0, .null, []) :: (54, .getfield 19, 0, 4, .null, []) :: B0_dropValue_57
def B0_dropValue_0 : List am_I := (0, .aload_n 0, 0, 0, .null, []) :: (1, .iconst 0, 0, 0, .int 0, []) :: (2, .putfield 19, 0, 4, .null, []) :: (5, .aload_n 0, 0, 0, .null, []) :: (6, .iload_n 1, 0, 0, .null, []) :: (7, .iload_n 2, 0, 0, .null, []) :: (8, .invokevirtual 37, 5, 2, .ref 0, []) :: (11, .iconst 0, 0, 0, .int 0, []) :: (12, .istore_n 3, 0, 0, .null, []) :: B0_dropValue_13
set_option maxRecDepth 20000 in
theorem vB0_dropValue_70 : am_vl 0 false none cX0_dropValue B0_dropValue_70 = true := am_vt (tl := []) 1 0 (by decide +kernel) rfl rfl rfl
set_option maxRecDepth 20000 in
theorem vB0_dropValue_57 : am_vl 0 false none cX0_dropValue B0_dropValue_57 = true := am_vt (tl := B0_dropValue_70) 6 70 (by decide +kernel) rfl rfl vB0_dropValue_70
set_option maxRecDepth 20000 in
theorem vB0_dropValue_13 : am_vl 0 false none cX0_dropValue B0_dropValue_13 = true := am_vt (tl := B0_dropValue_57) 24 57 (by decide +kernel) rfl rfl vB0_dropValue_57
set_option maxRecDepth 20000 in
theorem vB0_dropValue_0 : am_vl 0 false none cX0_dropValue B0_dropValue_0 = true := am_vt (tl := B0_dropValue_13) 9 13 (by decide +kernel) rfl rfl vB0_dropValue_13
def B0_await_43 : List am_I := (43, .return_, 0, 0, .null, []) :: []
def B0_await_0 : List am_I := (0, .iload_n 1, 0, 0, .null, []) :: (1, .ifCond .lt 42, 43, 0, .null, []) :: (4, .iload_n 2, 0, 0, .null, []) :: (5, .ifCond .lt 38, 43, 0, .null, []) :: (8, .aload_n 0, 0, 0, .null, []) :: (9, .getfield 19, 0, 4, .null, []) :: (12, .sipush 808, 0, 0, .int 808, []) :: (15, .if_icmp .ge 28, 43, 0, .null, []) :: (18, .aload_n 0, 0, 0, .null, []) :: (19, .getfield 11, 0, 2, .null, []) :: (22, .aload_n 0, 0, 0, .null, []) :: (23, .getfield 19, 0, 4, .null, []) :: (26, .iload_n 2, 0, 0, .null, []) :: (27, .bipush 24, 0, 0, .int 24, []) :: (29, .imul, 0, 0, .null, []) :: (30, .iload_n 1, 0, 0, .null, []) :: (31, .iadd, 0, 0, .null, []) :: (32, .iastore, 0, 0, .null, []) :: (33, .aload_n 0, 0, 0, .null, []) :: (34, .dup, 0, 0, .null, []) :: (35, .getfield 19, 0, 4, .null, []) :: (38, .iconst 1, 0, 0, .int 1, []) :: (39, .iadd, 0, 0, .null, []) :: (40, .putfield 19, 0, 4, .null, []) :: B0_await_43
set_option maxRecDepth 20000 in
theorem vB0_await_43 : am_vl 0 false none cX0_await B0_await_43 = true := am_vt (tl := []) 1 0 (by decide +kernel) rfl rfl rfl
set_option maxRecDepth 20000 in
theorem vB0_await_0 : am_vl 0 false none cX0_await B0_await_0 = true := am_vt (tl := B0_await_43) 24 43 (by decide +kernel) rfl rfl vB0_await_43
def B0_dropOne_133 : List am_I := (133, .return_, 0, 0, .null, []) :: []
def B0_dropOne_117 : List am_I := (117, .aload_n 0, 0, 0, .null, []) :: (118, .iload_n 1, 0, 0, .null, []) :: (119, .aload_n 0, 0, 0, .null, []) :: (120, .getfield 33, 0, 1, .null, []) :: (123, .iload_n 2, 0, 0, .null, []) :: (124, .invokevirtual 51, 29, 1, .ref 2, []) :: (127, .invokevirtual 72, 10, 2, .ref 0, []) :: (130, .goto 3, 133, 0, .null, []) :: B0_dropOne_133
def B0_dropOne_101 : List am_I := (101, .aload_n 0, 0, 0, .null, []) :: (102, .iload_n 1, 0, 0, .null, []) :: (103, .aload_n 0, 0, 0, .null, []) :: (104, .getfield 33, 0, 1, .null, []) :: (107, .iload_n 2, 0, 0, .null, []) :: (108, .invokevirtual 51, 29, 1, .ref 2, []) :: (111, .invokevirtual 68, 9, 2, .ref 0, []) :: (114, .goto 19, 133, 0, .null, []) :: B0_dropOne_117
def B0_dropOne_74 : List am_I := (74, .aload_n 0, 0, 0, .null, []) :: (75, .aload_n 0, 0, 0, .null, []) :: (76, .getfield 29, 0, 0, .null, []) :: (79, .iload_n 1, 0, 0, .null, []) :: (80, .aload_n 0, 0, 0, .null, []) :: (81, .getfield 33, 0, 1, .null, []) :: (84, .iload_n 2, 0, 0, .null, []) :: (85, .invokevirtual 51, 29, 1, .ref 2, []) :: (88, .l2i, 0, 0, .null, []) :: (89, .invokevirtual 64, 55, 2, .ref 3, []) :: (92, .iload_n 2, 0, 0, .null, []) :: (93, .iconst 1, 0, 0, .int 1, []) :: (94, .iadd, 0, 0, .null, []) :: (95, .invokevirtual 37, 5, 2, .ref 0, []) :: (98, .goto 35, 133, 0, .null, []) :: B0_dropOne_101
def B0_dropOne_65 : List am_I := (65, .aload_n 0, 0, 0, .null, []) :: (66, .iload_n 1, 0, 0, .null, []) :: (67, .iload_n 2, 0, 0, .null, []) :: (68, .invokevirtual 61, 8, 2, .ref 0, []) :: (71, .goto 62, 133, 0, .null, []) :: B0_dropOne_74
def B0_dropOne_44 : List am_I := (44, .aload_n 0, 0, 0, .null, []) :: (45, .aload_n 0, 0, 0, .null, []) :: (46, .getfield 33, 0, 1, .null, []) :: (49, .iload_n 2, 0, 0, .null, []) :: (50, .invokevirtual 51, 29, 1, .ref 2, []) :: (53, .invokevirtual 57, 7, 1, .ref 0, []) :: (56, .aload_n 0, 0, 0, .null, []) :: (57, .iload_n 1, 0, 0, .null, []) :: (58, .iload_n 2, 0, 0, .null, []) :: (59, .invokevirtual 61, 8, 2, .ref 0, []) :: (62, .goto 71, 133, 0, .null, []) :: B0_dropOne_65
def B0_dropOne_0 : List am_I := (0, .aload_n 0, 0, 0, .null, []) :: (1, .getfield 29, 0, 0, .null, []) :: (4, .iload_n 1, 0, 0, .null, []) :: (5, .invokevirtual 45, 53, 1, .ref 3, []) :: (8, .tableswitch 125 1 5 #[57, 36, 66, 93, 109], 133, 0, .null, [(1, 65), (2, 44), (3, 74), (4, 101), (5, 117)]) :: B0_dropOne_44
set_option maxRecDepth 20000 in
theorem vB0_dropOne_133 : am_vl 0 false none cX0_dropOne B0_dropOne_133 = true := am_vt (tl := []) 1 0 (by decide +kernel) rfl rfl rfl
set_option maxRecDepth 20000 in
theorem vB0_dropOne_117 : am_vl 0 false none cX0_dropOne B0_dropOne_117 = true := am_vt (tl := B0_dropOne_133) 8 133 (by decide +kernel) rfl rfl vB0_dropOne_133
set_option maxRecDepth 20000 in
theorem vB0_dropOne_101 : am_vl 0 false none cX0_dropOne B0_dropOne_101 = true := am_vt (tl := B0_dropOne_117) 8 117 (by decide +kernel) rfl rfl vB0_dropOne_117
set_option maxRecDepth 20000 in
theorem vB0_dropOne_74 : am_vl 0 false none cX0_dropOne B0_dropOne_74 = true := am_vt (tl := B0_dropOne_101) 15 101 (by decide +kernel) rfl rfl vB0_dropOne_101
set_option maxRecDepth 20000 in
theorem vB0_dropOne_65 : am_vl 0 false none cX0_dropOne B0_dropOne_65 = true := am_vt (tl := B0_dropOne_74) 5 74 (by decide +kernel) rfl rfl vB0_dropOne_74
set_option maxRecDepth 20000 in
theorem vB0_dropOne_44 : am_vl 0 false none cX0_dropOne B0_dropOne_44 = true := am_vt (tl := B0_dropOne_65) 11 65 (by decide +kernel) rfl rfl vB0_dropOne_65
set_option maxRecDepth 20000 in
theorem vB0_dropOne_0 : am_vl 0 false none cX0_dropOne B0_dropOne_0 = true := am_vt (tl := B0_dropOne_44) 5 44 (by decide +kernel) rfl rfl vB0_dropOne_44
def B0_tell_40 : List am_I := (40, .return_, 0, 0, .null, []) :: []
def B0_tell_0 : List am_I := (0, .aload_n 0, 0, 0, .null, []) :: (1, .dup, 0, 0, .null, []) :: (2, .getfield 26, 0, 6, .null, []) :: (5, .iconst 1, 0, 0, .int 1, []) :: (6, .iadd, 0, 0, .null, []) :: (7, .putfield 26, 0, 6, .null, []) :: (10, .aload_n 0, 0, 0, .null, []) :: (11, .getfield 23, 0, 5, .null, []) :: (14, .sipush 400, 0, 0, .int 400, []) :: (17, .if_icmp .ge 23, 40, 0, .null, []) :: (20, .aload_n 0, 0, 0, .null, []) :: (21, .getfield 15, 0, 3, .null, []) :: (24, .aload_n 0, 0, 0, .null, []) :: (25, .getfield 23, 0, 5, .null, []) :: (28, .lload_n 1, 0, 0, .null, []) :: (29, .lastore, 0, 0, .null, []) :: (30, .aload_n 0, 0, 0, .null, []) :: (31, .dup, 0, 0, .null, []) :: (32, .getfield 23, 0, 5, .null, []) :: (35, .iconst 1, 0, 0, .int 1, []) :: (36, .iadd, 0, 0, .null, []) :: (37, .putfield 23, 0, 5, .null, []) :: B0_tell_40
set_option maxRecDepth 20000 in
theorem vB0_tell_40 : am_vl 0 false none cX0_tell B0_tell_40 = true := am_vt (tl := []) 1 0 (by decide +kernel) rfl rfl rfl
set_option maxRecDepth 20000 in
theorem vB0_tell_0 : am_vl 0 false none cX0_tell B0_tell_0 = true := am_vt (tl := B0_tell_40) 22 40 (by decide +kernel) rfl rfl vB0_tell_40
def B0_awaitFields_56 : List am_I := (56, .return_, 0, 0, .null, []) :: []
def B0_awaitFields_14 : List am_I := (14, .iload 4, 0, 0, .null, []) :: (16, .ifCond .lt 40, 56, 0, .null, []) :: (19, .aload_n 0, 0, 0, .null, []) :: (20, .getfield 29, 0, 0, .null, []) :: (23, .iload_n 1, 0, 0, .null, []) :: (24, .iload 4, 0, 0, .null, []) :: (26, .invokevirtual 64, 55, 2, .ref 3, []) :: (29, .istore 5, 0, 0, .null, []) :: (31, .iload_n 3, 0, 0, .null, []) :: (32, .aload_n 0, 0, 0, .null, []) :: (33, .getfield 29, 0, 0, .null, []) :: (36, .iload 5, 0, 0, .null, []) :: (38, .invokevirtual 75, 54, 1, .ref 3, []) :: (41, .isub, 0, 0, .null, []) :: (42, .istore_n 3, 0, 0, .null, []) :: (43, .aload_n 0, 0, 0, .null, []) :: (44, .iload 5, 0, 0, .null, []) :: (46, .iload_n 3, 0, 0, .null, []) :: (47, .invokevirtual 37, 5, 2, .ref 0, []) :: (50, .iinc 4 (-1), 0, 0, .int (-1), []) :: (53, .goto (-39), 14, 0, .null, []) :: B0_awaitFields_56
def B0_awaitFields_0 : List am_I := (0, .iload_n 2, 0, 0, .null, []) :: (1, .aload_n 0, 0, 0, .null, []) :: (2, .getfield 29, 0, 0, .null, []) :: (5, .iload_n 1, 0, 0, .null, []) :: (6, .invokevirtual 75, 54, 1, .ref 3, []) :: (9, .iadd, 0, 0, .null, []) :: (10, .istore_n 3, 0, 0, .null, []) :: (11, .iconst 2, 0, 0, .int 2, []) :: (12, .istore 4, 0, 0, .null, []) :: B0_awaitFields_14
set_option maxRecDepth 20000 in
theorem vB0_awaitFields_56 : am_vl 0 false none cX0_awaitFields B0_awaitFields_56 = true := am_vt (tl := []) 1 0 (by decide +kernel) rfl rfl rfl
set_option maxRecDepth 20000 in
theorem vB0_awaitFields_14 : am_vl 0 false none cX0_awaitFields B0_awaitFields_14 = true := am_vt (tl := B0_awaitFields_56) 21 56 (by decide +kernel) rfl rfl vB0_awaitFields_56
set_option maxRecDepth 20000 in
theorem vB0_awaitFields_0 : am_vl 0 false none cX0_awaitFields B0_awaitFields_0 = true := am_vt (tl := B0_awaitFields_14) 9 14 (by decide +kernel) rfl rfl vB0_awaitFields_14
def B0_awaitBoxed_0 : List am_I := (0, .aload_n 0, 0, 0, .null, []) :: (1, .getfield 33, 0, 1, .null, []) :: (4, .lload_n 2, 0, 0, .null, []) :: (5, .invokevirtual 78, 39, 1, .ref 2, []) :: (8, .aload_n 0, 0, 0, .null, []) :: (9, .aload_n 0, 0, 0, .null, []) :: (10, .getfield 29, 0, 0, .null, []) :: (13, .iload_n 1, 0, 0, .null, []) :: (14, .iconst 0, 0, 0, .int 0, []) :: (15, .invokevirtual 64, 55, 2, .ref 3, []) :: (18, .aload_n 0, 0, 0, .null, []) :: (19, .getfield 33, 0, 1, .null, []) :: (22, .lload_n 2, 0, 0, .null, []) :: (23, .invokevirtual 81, 43, 1, .ref 2, []) :: (26, .invokevirtual 37, 5, 2, .ref 0, []) :: (29, .return_, 0, 0, .null, []) :: []
set_option maxRecDepth 20000 in
theorem vB0_awaitBoxed_0 : am_vl 0 false none cX0_awaitBoxed B0_awaitBoxed_0 = true := am_vt (tl := []) 16 0 (by decide +kernel) rfl rfl rfl
def B0_awaitElements_54 : List am_I := (54, .return_, 0, 0, .null, []) :: []
def B0_awaitElements_20 : List am_I := (20, .iload 4, 0, 0, .null, []) :: (22, .ifCond .lt 32, 54, 0, .null, []) :: (25, .aload_n 0, 0, 0, .null, []) :: (26, .aload_n 0, 0, 0, .null, []) :: (27, .getfield 29, 0, 0, .null, []) :: (30, .iload_n 1, 0, 0, .null, []) :: (31, .iconst 0, 0, 0, .int 0, []) :: (32, .invokevirtual 64, 55, 2, .ref 3, []) :: (35, .aload_n 0, 0, 0, .null, []) :: (36, .getfield 33, 0, 1, .null, []) :: (39, .lload_n 2, 0, 0, .null, []) :: (40, .iload 4, 0, 0, .null, []) :: (42, .invokevirtual 91, 44, 2, .ref 2, []) :: (45, .invokevirtual 37, 5, 2, .ref 0, []) :: (48, .iinc 4 (-1), 0, 0, .int (-1), []) :: (51, .goto (-31), 20, 0, .null, []) :: B0_awaitElements_54
def B0_awaitElements_0 : List am_I := (0, .aload_n 0, 0, 0, .null, []) :: (1, .getfield 33, 0, 1, .null, []) :: (4, .lload_n 2, 0, 0, .null, []) :: (5, .invokevirtual 85, 40, 1, .ref 2, []) :: (8, .aload_n 0, 0, 0, .null, []) :: (9, .getfield 33, 0, 1, .null, []) :: (12, .lload_n 2, 0, 0, .null, []) :: (13, .invokevirtual 88, 45, 1, .ref 2, []) :: (16, .iconst 1, 0, 0, .int 1, []) :: (17, .isub, 0, 0, .null, []) :: (18, .istore 4, 0, 0, .null, []) :: B0_awaitElements_20
set_option maxRecDepth 20000 in
theorem vB0_awaitElements_54 : am_vl 0 false none cX0_awaitElements B0_awaitElements_54 = true := am_vt (tl := []) 1 0 (by decide +kernel) rfl rfl rfl
set_option maxRecDepth 20000 in
theorem vB0_awaitElements_20 : am_vl 0 false none cX0_awaitElements B0_awaitElements_20 = true := am_vt (tl := B0_awaitElements_54) 16 54 (by decide +kernel) rfl rfl vB0_awaitElements_54
set_option maxRecDepth 20000 in
theorem vB0_awaitElements_0 : am_vl 0 false none cX0_awaitElements B0_awaitElements_0 = true := am_vt (tl := B0_awaitElements_20) 11 20 (by decide +kernel) rfl rfl vB0_awaitElements_20
def B1_init_62 : List am_I := (62, .return_, 0, 0, .null, []) :: []
def B1_init_40 : List am_I := (40, .iload_n 1, 0, 0, .null, []) :: (41, .aload_n 0, 0, 0, .null, []) :: (42, .getfield 18, 1, 2, .null, []) :: (45, .arraylength, 0, 0, .null, []) :: (46, .if_icmp .ge 16, 62, 0, .null, []) :: (49, .aload_n 0, 0, 0, .null, []) :: (50, .getfield 18, 1, 2, .null, []) :: (53, .iload_n 1, 0, 0, .null, []) :: (54, .iconst (-1), 0, 0, .int (-1), []) :: (55, .iastore, 0, 0, .null, []) :: (56, .iinc 1 1, 0, 0, .int 1, []) :: (59, .goto (-19), 40, 0, .null, []) :: B1_init_62
def B1_init_0 : List am_I := (0, .aload_n 0, 0, 0, .null, []) :: (1, .invokespecial 3, 0, 0, .null, []) :: (4, .aload_n 0, 0, 0, .null, []) :: (5, .bipush 24, 0, 0, .int 24, []) :: (7, .newarray .int, 0, 0, .null, []) :: (9, .putfield 9, 1, 0, .null, []) :: (12, .aload_n 0, 0, 0, .null, []) :: (13, .bipush 12, 0, 0, .int 12, []) :: (15, .newarray .int, 0, 0, .null, []) :: (17, .putfield 15, 1, 1, .null, []) :: (20, .aload_n 0, 0, 0, .null, []) :: (21, .bipush 96, 0, 0, .int 96, []) :: (23, .newarray .int, 0, 0, .null, []) :: (25, .putfield 18, 1, 2, .null, []) :: (28, .aload_n 0, 0, 0, .null, []) :: (29, .iconst 0, 0, 0, .int 0, []) :: (30, .putfield 21, 1, 3, .null, []) :: (33, .aload_n 0, 0, 0, .null, []) :: (34, .iconst 1, 0, 0, .int 1, []) :: (35, .putfield 25, 1, 4, .null, []) :: (38, .iconst 0, 0, 0, .int 0, []) :: (39, .istore_n 1, 0, 0, .null, []) :: B1_init_40
set_option maxRecDepth 20000 in
theorem vB1_init_62 : am_vl 1 true none cX1_init B1_init_62 = true := am_vt (tl := []) 1 0 (by decide +kernel) rfl rfl rfl
set_option maxRecDepth 20000 in
theorem vB1_init_40 : am_vl 1 true none cX1_init B1_init_40 = true := am_vt (tl := B1_init_62) 12 62 (by decide +kernel) rfl rfl vB1_init_62
set_option maxRecDepth 20000 in
theorem vB1_init_0 : am_vl 1 true none cX1_init B1_init_0 = true := am_vt (tl := B1_init_40) 22 40 (by decide +kernel) rfl rfl vB1_init_40
def B1_frameCount_0 : List am_I := (0, .aload_n 0, 0, 0, .null, []) :: (1, .getfield 25, 1, 4, .null, []) :: (4, .ireturn, 0, 0, .null, []) :: []
set_option maxRecDepth 20000 in
theorem vB1_frameCount_0 : am_vl 1 false (some .int) cX1_frameCount B1_frameCount_0 = true := am_vt (tl := []) 3 0 (by decide +kernel) rfl rfl rfl
def B1_lastFrame_0 : List am_I := (0, .aload_n 0, 0, 0, .null, []) :: (1, .getfield 25, 1, 4, .null, []) :: (4, .iconst 1, 0, 0, .int 1, []) :: (5, .isub, 0, 0, .null, []) :: (6, .ireturn, 0, 0, .null, []) :: []
set_option maxRecDepth 20000 in
theorem vB1_lastFrame_0 : am_vl 1 false (some .int) cX1_lastFrame B1_lastFrame_0 = true := am_vt (tl := []) 5 0 (by decide +kernel) rfl rfl rfl
def B1_addFrame_32 : List am_I := (32, .return_, 0, 0, .null, []) :: []
def B1_addFrame_0 : List am_I := (0, .aload_n 0, 0, 0, .null, []) :: (1, .getfield 25, 1, 4, .null, []) :: (4, .bipush 12, 0, 0, .int 12, []) :: (6, .if_icmp .ge 26, 32, 0, .null, []) :: (9, .aload_n 0, 0, 0, .null, []) :: (10, .getfield 15, 1, 1, .null, []) :: (13, .aload_n 0, 0, 0, .null, []) :: (14, .getfield 25, 1, 4, .null, []) :: (17, .aload_n 0, 0, 0, .null, []) :: (18, .getfield 21, 1, 3, .null, []) :: (21, .iastore, 0, 0, .null, []) :: (22, .aload_n 0, 0, 0, .null, []) :: (23, .dup, 0, 0, .null, []) :: (24, .getfield 25, 1, 4, .null, []) :: (27, .iconst 1, 0, 0, .int 1, []) :: (28, .iadd, 0, 0, .null, []) :: (29, .putfield 25, 1, 4, .null, []) :: B1_addFrame_32
set_option maxRecDepth 20000 in
theorem vB1_addFrame_32 : am_vl 1 false none cX1_addFrame B1_addFrame_32 = true := am_vt (tl := []) 1 0 (by decide +kernel) rfl rfl rfl
set_option maxRecDepth 20000 in
theorem vB1_addFrame_0 : am_vl 1 false none cX1_addFrame B1_addFrame_0 = true := am_vt (tl := B1_addFrame_32) 17 32 (by decide +kernel) rfl rfl vB1_addFrame_32
def B1_removeFrame_17 : List am_I := (17, .return_, 0, 0, .null, []) :: []
def B1_removeFrame_0 : List am_I := (0, .aload_n 0, 0, 0, .null, []) :: (1, .getfield 25, 1, 4, .null, []) :: (4, .ifCond .le 13, 17, 0, .null, []) :: (7, .aload_n 0, 0, 0, .null, []) :: (8, .dup, 0, 0, .null, []) :: (9, .getfield 25, 1, 4, .null, []) :: (12, .iconst 1, 0, 0, .int 1, []) :: (13, .isub, 0, 0, .null, []) :: (14, .putfield 25, 1, 4, .null, []) :: B1_removeFrame_17
set_option maxRecDepth 20000 in
theorem vB1_removeFrame_17 : am_vl 1 false none cX1_removeFrame B1_removeFrame_17 = true := am_vt (tl := []) 1 0 (by decide +kernel) rfl rfl rfl
set_option maxRecDepth 20000 in
theorem vB1_removeFrame_0 : am_vl 1 false none cX1_removeFrame B1_removeFrame_0 = true := am_vt (tl := B1_removeFrame_17) 9 17 (by decide +kernel) rfl rfl vB1_removeFrame_17
def B1_handCount_0 : List am_I := (0, .aload_n 0, 0, 0, .null, []) :: (1, .getfield 21, 1, 3, .null, []) :: (4, .ireturn, 0, 0, .null, []) :: []
set_option maxRecDepth 20000 in
theorem vB1_handCount_0 : am_vl 1 false (some .int) cX1_handCount B1_handCount_0 = true := am_vt (tl := []) 3 0 (by decide +kernel) rfl rfl rfl
def B1_handOfLast_27 : List am_I := (27, .ireturn, 0, 0, .null, []) :: []
def B1_handOfLast_26 : List am_I := (26, .iconst 0, 0, 0, .int 0, []) :: B1_handOfLast_27
def B1_handOfLast_0 : List am_I := (0, .aload_n 0, 0, 0, .null, []) :: (1, .getfield 25, 1, 4, .null, []) :: (4, .ifCond .le 22, 26, 0, .null, []) :: (7, .aload_n 0, 0, 0, .null, []) :: (8, .getfield 21, 1, 3, .null, []) :: (11, .aload_n 0, 0, 0, .null, []) :: (12, .getfield 15, 1, 1, .null, []) :: (15, .aload_n 0, 0, 0, .null, []) :: (16, .getfield 25, 1, 4, .null, []) :: (19, .iconst 1, 0, 0, .int 1, []) :: (20, .isub, 0, 0, .null, []) :: (21, .iaload, 0, 0, .null, []) :: (22, .isub, 0, 0, .null, []) :: (23, .goto 4, 27, 0, .null, []) :: B1_handOfLast_26
set_option maxRecDepth 20000 in
theorem vB1_handOfLast_27 : am_vl 1 false (some .int) cX1_handOfLast B1_handOfLast_27 = true := am_vt (tl := []) 1 0 (by decide +kernel) rfl rfl rfl
set_option maxRecDepth 20000 in
theorem vB1_handOfLast_26 : am_vl 1 false (some .int) cX1_handOfLast B1_handOfLast_26 = true := am_vt (tl := B1_handOfLast_27) 1 27 (by decide +kernel) rfl rfl vB1_handOfLast_27
set_option maxRecDepth 20000 in
theorem vB1_handOfLast_0 : am_vl 1 false (some .int) cX1_handOfLast B1_handOfLast_0 = true := am_vt (tl := B1_handOfLast_26) 14 26 (by decide +kernel) rfl rfl vB1_handOfLast_26
def B1_handHasRoomFor_16 : List am_I := (16, .ireturn, 1, 0, .null, []) :: []
def B1_handHasRoomFor_15 : List am_I := (15, .iconst 0, 0, 0, .int 0, []) :: B1_handHasRoomFor_16
def B1_handHasRoomFor_0 : List am_I := (0, .aload_n 0, 0, 0, .null, []) :: (1, .getfield 21, 1, 3, .null, []) :: (4, .iload_n 1, 0, 0, .null, []) :: (5, .iadd, 0, 0, .null, []) :: (6, .bipush 24, 0, 0, .int 24, []) :: (8, .if_icmp .gt 7, 15, 0, .null, []) :: (11, .iconst 1, 0, 0, .int 1, []) :: (12, .goto 4, 16, 0, .null, []) :: B1_handHasRoomFor_15
set_option maxRecDepth 20000 in
theorem vB1_handHasRoomFor_16 : am_vl 1 false (some .boolean) cX1_handHasRoomFor B1_handHasRoomFor_16 = true := am_vt (tl := []) 1 0 (by decide +kernel) rfl rfl rfl
set_option maxRecDepth 20000 in
theorem vB1_handHasRoomFor_15 : am_vl 1 false (some .boolean) cX1_handHasRoomFor B1_handHasRoomFor_15 = true := am_vt (tl := B1_handHasRoomFor_16) 1 16 (by decide +kernel) rfl rfl vB1_handHasRoomFor_16
set_option maxRecDepth 20000 in
theorem vB1_handHasRoomFor_0 : am_vl 1 false (some .boolean) cX1_handHasRoomFor B1_handHasRoomFor_0 = true := am_vt (tl := B1_handHasRoomFor_15) 8 15 (by decide +kernel) rfl rfl vB1_handHasRoomFor_15
def B1_handShape_22 : List am_I := (22, .ireturn, 0, 0, .null, []) :: []
def B1_handShape_21 : List am_I := (21, .iconst (-1), 0, 0, .int (-1), []) :: B1_handShape_22
def B1_handShape_0 : List am_I := (0, .iload_n 1, 0, 0, .null, []) :: (1, .ifCond .lt 20, 21, 0, .null, []) :: (4, .iload_n 1, 0, 0, .null, []) :: (5, .aload_n 0, 0, 0, .null, []) :: (6, .getfield 21, 1, 3, .null, []) :: (9, .if_icmp .ge 12, 21, 0, .null, []) :: (12, .aload_n 0, 0, 0, .null, []) :: (13, .getfield 9, 1, 0, .null, []) :: (16, .iload_n 1, 0, 0, .null, []) :: (17, .iaload, 0, 0, .null, []) :: (18, .goto 4, 22, 0, .null, []) :: B1_handShape_21
set_option maxRecDepth 20000 in
theorem vB1_handShape_22 : am_vl 1 false (some .int) cX1_handShape B1_handShape_22 = true := am_vt (tl := []) 1 0 (by decide +kernel) rfl rfl rfl
set_option maxRecDepth 20000 in
theorem vB1_handShape_21 : am_vl 1 false (some .int) cX1_handShape B1_handShape_21 = true := am_vt (tl := B1_handShape_22) 1 22 (by decide +kernel) rfl rfl vB1_handShape_22
set_option maxRecDepth 20000 in
theorem vB1_handShape_0 : am_vl 1 false (some .int) cX1_handShape B1_handShape_0 = true := am_vt (tl := B1_handShape_21) 11 21 (by decide +kernel) rfl rfl vB1_handShape_21
def B1_topShape_21 : List am_I := (21, .ireturn, 0, 0, .null, []) :: []
def B1_topShape_20 : List am_I := (20, .iconst (-1), 0, 0, .int (-1), []) :: B1_topShape_21
def B1_topShape_0 : List am_I := (0, .aload_n 0, 0, 0, .null, []) :: (1, .invokevirtual 28, 17, 0, .ref 1, []) :: (4, .ifCond .le 16, 20, 0, .null, []) :: (7, .aload_n 0, 0, 0, .null, []) :: (8, .aload_n 0, 0, 0, .null, []) :: (9, .getfield 21, 1, 3, .null, []) :: (12, .iconst 1, 0, 0, .int 1, []) :: (13, .isub, 0, 0, .null, []) :: (14, .invokevirtual 32, 19, 1, .ref 1, []) :: (17, .goto 4, 21, 0, .null, []) :: B1_topShape_20
set_option maxRecDepth 20000 in
theorem vB1_topShape_21 : am_vl 1 false (some .int) cX1_topShape B1_topShape_21 = true := am_vt (tl := []) 1 0 (by decide +kernel) rfl rfl rfl
set_option maxRecDepth 20000 in
theorem vB1_topShape_20 : am_vl 1 false (some .int) cX1_topShape B1_topShape_20 = true := am_vt (tl := B1_topShape_21) 1 21 (by decide +kernel) rfl rfl vB1_topShape_21
set_option maxRecDepth 20000 in
theorem vB1_topShape_0 : am_vl 1 false (some .int) cX1_topShape B1_topShape_0 = true := am_vt (tl := B1_topShape_20) 10 20 (by decide +kernel) rfl rfl vB1_topShape_20
def B1_handEndsWith_42 : List am_I := (42, .iconst 1, 0, 0, .int 1, []) :: (43, .ireturn, 1, 0, .null, []) :: []
def B1_handEndsWith_36 : List am_I := (36, .iinc 3 1, 0, 0, .int 1, []) :: (39, .goto (-22), 17, 0, .null, []) :: B1_handEndsWith_42
def B1_handEndsWith_17 : List am_I := (17, .iload_n 3, 0, 0, .null, []) :: (18, .aload_n 0, 0, 0, .null, []) :: (19, .getfield 21, 1, 3, .null, []) :: (22, .if_icmp .ge 20, 42, 0, .null, []) :: (25, .aload_n 0, 0, 0, .null, []) :: (26, .iload_n 3, 0, 0, .null, []) :: (27, .invokevirtual 32, 19, 1, .ref 1, []) :: (30, .iload_n 2, 0, 0, .null, []) :: (31, .if_icmp .eq 5, 36, 0, .null, []) :: (34, .iconst 0, 0, 0, .int 0, []) :: (35, .ireturn, 1, 0, .null, []) :: B1_handEndsWith_36
def B1_handEndsWith_10 : List am_I := (10, .aload_n 0, 0, 0, .null, []) :: (11, .getfield 21, 1, 3, .null, []) :: (14, .iload_n 1, 0, 0, .null, []) :: (15, .isub, 0, 0, .null, []) :: (16, .istore_n 3, 0, 0, .null, []) :: B1_handEndsWith_17
def B1_handEndsWith_0 : List am_I := (0, .iload_n 1, 0, 0, .null, []) :: (1, .aload_n 0, 0, 0, .null, []) :: (2, .invokevirtual 28, 17, 0, .ref 1, []) :: (5, .if_icmp .le 5, 10, 0, .null, []) :: (8, .iconst 0, 0, 0, .int 0, []) :: (9, .ireturn, 1, 0, .null, []) :: B1_handEndsWith_10
set_option maxRecDepth 20000 in
theorem vB1_handEndsWith_42 : am_vl 1 false (some .boolean) cX1_handEndsWith B1_handEndsWith_42 = true := am_vt (tl := []) 2 0 (by decide +kernel) rfl rfl rfl
set_option maxRecDepth 20000 in
theorem vB1_handEndsWith_36 : am_vl 1 false (some .boolean) cX1_handEndsWith B1_handEndsWith_36 = true := am_vt (tl := B1_handEndsWith_42) 2 42 (by decide +kernel) rfl rfl vB1_handEndsWith_42
set_option maxRecDepth 20000 in
theorem vB1_handEndsWith_17 : am_vl 1 false (some .boolean) cX1_handEndsWith B1_handEndsWith_17 = true := am_vt (tl := B1_handEndsWith_36) 11 36 (by decide +kernel) rfl rfl vB1_handEndsWith_36
set_option maxRecDepth 20000 in
theorem vB1_handEndsWith_10 : am_vl 1 false (some .boolean) cX1_handEndsWith B1_handEndsWith_10 = true := am_vt (tl := B1_handEndsWith_17) 5 17 (by decide +kernel) rfl rfl vB1_handEndsWith_17
set_option maxRecDepth 20000 in
theorem vB1_handEndsWith_0 : am_vl 1 false (some .boolean) cX1_handEndsWith B1_handEndsWith_0 = true := am_vt (tl := B1_handEndsWith_10) 6 10 (by decide +kernel) rfl rfl vB1_handEndsWith_10
def B1_layOn_29 : List am_I := (29, .return_, 0, 0, .null, []) :: []
def B1_layOn_0 : List am_I := (0, .aload_n 0, 0, 0, .null, []) :: (1, .getfield 21, 1, 3, .null, []) :: (4, .bipush 24, 0, 0, .int 24, []) :: (6, .if_icmp .ge 23, 29, 0, .null, []) :: (9, .aload_n 0, 0, 0, .null, []) :: (10, .getfield 9, 1, 0, .null, []) :: (13, .aload_n 0, 0, 0, .null, []) :: (14, .getfield 21, 1, 3, .null, []) :: (17, .iload_n 1, 0, 0, .null, []) :: (18, .iastore, 0, 0, .null, []) :: (19, .aload_n 0, 0, 0, .null, []) :: (20, .dup, 0, 0, .null, []) :: (21, .getfield 21, 1, 3, .null, []) :: (24, .iconst 1, 0, 0, .int 1, []) :: (25, .iadd, 0, 0, .null, []) :: (26, .putfield 21, 1, 3, .null, []) :: B1_layOn_29
set_option maxRecDepth 20000 in
theorem vB1_layOn_29 : am_vl 1 false none cX1_layOn B1_layOn_29 = true := am_vt (tl := []) 1 0 (by decide +kernel) rfl rfl rfl
set_option maxRecDepth 20000 in
theorem vB1_layOn_0 : am_vl 1 false none cX1_layOn B1_layOn_0 = true := am_vt (tl := B1_layOn_29) 16 29 (by decide +kernel) rfl rfl vB1_layOn_29
def B1_takeOff_22 : List am_I := (22, .return_, 0, 0, .null, []) :: []
def B1_takeOff_0 : List am_I := (0, .iload_n 1, 0, 0, .null, []) :: (1, .ifCond .lt 21, 22, 0, .null, []) :: (4, .iload_n 1, 0, 0, .null, []) :: (5, .aload_n 0, 0, 0, .null, []) :: (6, .getfield 21, 1, 3, .null, []) :: (9, .if_icmp .gt 13, 22, 0, .null, []) :: (12, .aload_n 0, 0, 0, .null, []) :: (13, .dup, 0, 0, .null, []) :: (14, .getfield 21, 1, 3, .null, []) :: (17, .iload_n 1, 0, 0, .null, []) :: (18, .isub, 0, 0, .null, []) :: (19, .putfield 21, 1, 3, .null, []) :: B1_takeOff_22
set_option maxRecDepth 20000 in
theorem vB1_takeOff_22 : am_vl 1 false none cX1_takeOff B1_takeOff_22 = true := am_vt (tl := []) 1 0 (by decide +kernel) rfl rfl rfl
set_option maxRecDepth 20000 in
theorem vB1_takeOff_0 : am_vl 1 false none cX1_takeOff B1_takeOff_0 = true := am_vt (tl := B1_takeOff_22) 12 22 (by decide +kernel) rfl rfl vB1_takeOff_22
def B1_slotShape_23 : List am_I := (23, .ireturn, 0, 0, .null, []) :: []
def B1_slotShape_22 : List am_I := (22, .iconst (-1), 0, 0, .int (-1), []) :: B1_slotShape_23
def B1_slotShape_0 : List am_I := (0, .iload_n 1, 0, 0, .null, []) :: (1, .iload_n 2, 0, 0, .null, []) :: (2, .invokestatic 36, 26, 2, .int 0, []) :: (5, .ifCond .eq 17, 22, 0, .null, []) :: (8, .aload_n 0, 0, 0, .null, []) :: (9, .getfield 18, 1, 2, .null, []) :: (12, .iload_n 1, 0, 0, .null, []) :: (13, .bipush 8, 0, 0, .int 8, []) :: (15, .imul, 0, 0, .null, []) :: (16, .iload_n 2, 0, 0, .null, []) :: (17, .iadd, 0, 0, .null, []) :: (18, .iaload, 0, 0, .null, []) :: (19, .goto 4, 23, 0, .null, []) :: B1_slotShape_22
set_option maxRecDepth 20000 in
theorem vB1_slotShape_23 : am_vl 1 false (some .int) cX1_slotShape B1_slotShape_23 = true := am_vt (tl := []) 1 0 (by decide +kernel) rfl rfl rfl
set_option maxRecDepth 20000 in
theorem vB1_slotShape_22 : am_vl 1 false (some .int) cX1_slotShape B1_slotShape_22 = true := am_vt (tl := B1_slotShape_23) 1 23 (by decide +kernel) rfl rfl vB1_slotShape_23
set_option maxRecDepth 20000 in
theorem vB1_slotShape_0 : am_vl 1 false (some .int) cX1_slotShape B1_slotShape_0 = true := am_vt (tl := B1_slotShape_22) 13 22 (by decide +kernel) rfl rfl vB1_slotShape_22
def B1_fillSlot_20 : List am_I := (20, .return_, 0, 0, .null, []) :: []
def B1_fillSlot_0 : List am_I := (0, .iload_n 1, 0, 0, .null, []) :: (1, .iload_n 2, 0, 0, .null, []) :: (2, .invokestatic 36, 26, 2, .int 0, []) :: (5, .ifCond .eq 15, 20, 0, .null, []) :: (8, .aload_n 0, 0, 0, .null, []) :: (9, .getfield 18, 1, 2, .null, []) :: (12, .iload_n 1, 0, 0, .null, []) :: (13, .bipush 8, 0, 0, .int 8, []) :: (15, .imul, 0, 0, .null, []) :: (16, .iload_n 2, 0, 0, .null, []) :: (17, .iadd, 0, 0, .null, []) :: (18, .iload_n 3, 0, 0, .null, []) :: (19, .iastore, 0, 0, .null, []) :: B1_fillSlot_20
set_option maxRecDepth 20000 in
theorem vB1_fillSlot_20 : am_vl 1 false none cX1_fillSlot B1_fillSlot_20 = true := am_vt (tl := []) 1 0 (by decide +kernel) rfl rfl rfl
set_option maxRecDepth 20000 in
theorem vB1_fillSlot_0 : am_vl 1 false none cX1_fillSlot B1_fillSlot_0 = true := am_vt (tl := B1_fillSlot_20) 13 20 (by decide +kernel) rfl rfl vB1_fillSlot_20
def B1_hasSlot_22 : List am_I := (22, .ireturn, 1, 0, .null, []) :: []
def B1_hasSlot_21 : List am_I := (21, .iconst 0, 0, 0, .int 0, []) :: B1_hasSlot_22
def B1_hasSlot_0 : List am_I := (0, .iload_n 0, 0, 0, .null, []) :: (1, .ifCond .lt 20, 21, 0, .null, []) :: (4, .iload_n 0, 0, 0, .null, []) :: (5, .bipush 12, 0, 0, .int 12, []) :: (7, .if_icmp .ge 14, 21, 0, .null, []) :: (10, .iload_n 1, 0, 0, .null, []) :: (11, .invokestatic 40, 95, 1, .int 1, []) :: (14, .ifCond .eq 7, 21, 0, .null, []) :: (17, .iconst 1, 0, 0, .int 1, []) :: (18, .goto 4, 22, 0, .null, []) :: B1_hasSlot_21
set_option maxRecDepth 20000 in
theorem vB1_hasSlot_22 : am_vl 1 false (some .boolean) cX1_hasSlot B1_hasSlot_22 = true := am_vt (tl := []) 1 0 (by decide +kernel) rfl rfl rfl
set_option maxRecDepth 20000 in
theorem vB1_hasSlot_21 : am_vl 1 false (some .boolean) cX1_hasSlot B1_hasSlot_21 = true := am_vt (tl := B1_hasSlot_22) 1 22 (by decide +kernel) rfl rfl vB1_hasSlot_22
set_option maxRecDepth 20000 in
theorem vB1_hasSlot_0 : am_vl 1 false (some .boolean) cX1_hasSlot B1_hasSlot_0 = true := am_vt (tl := B1_hasSlot_21) 10 21 (by decide +kernel) rfl rfl vB1_hasSlot_21
def B1_filledSlots_32 : List am_I := (32, .iload_n 1, 0, 0, .null, []) :: (33, .ireturn, 0, 0, .null, []) :: []
def B1_filledSlots_26 : List am_I := (26, .iinc 2 1, 0, 0, .int 1, []) :: (29, .goto (-25), 4, 0, .null, []) :: B1_filledSlots_32
def B1_filledSlots_4 : List am_I := (4, .iload_n 2, 0, 0, .null, []) :: (5, .aload_n 0, 0, 0, .null, []) :: (6, .getfield 18, 1, 2, .null, []) :: (9, .arraylength, 0, 0, .null, []) :: (10, .if_icmp .ge 22, 32, 0, .null, []) :: (13, .aload_n 0, 0, 0, .null, []) :: (14, .getfield 18, 1, 2, .null, []) :: (17, .iload_n 2, 0, 0, .null, []) :: (18, .iaload, 0, 0, .null, []) :: (19, .iconst (-1), 0, 0, .int (-1), []) :: (20, .if_icmp .eq 6, 26, 0, .null, []) :: (23, .iinc 1 1, 0, 0, .int 1, []) :: B1_filledSlots_26
def B1_filledSlots_0 : List am_I := (0, .iconst 0, 0, 0, .int 0, []) :: (1, .istore_n 1, 0, 0, .null, []) :: (2, .iconst 0, 0, 0, .int 0, []) :: (3, .istore_n 2, 0, 0, .null, []) :: B1_filledSlots_4
set_option maxRecDepth 20000 in
theorem vB1_filledSlots_32 : am_vl 1 false (some .int) cX1_filledSlots B1_filledSlots_32 = true := am_vt (tl := []) 2 0 (by decide +kernel) rfl rfl rfl
set_option maxRecDepth 20000 in
theorem vB1_filledSlots_26 : am_vl 1 false (some .int) cX1_filledSlots B1_filledSlots_26 = true := am_vt (tl := B1_filledSlots_32) 2 32 (by decide +kernel) rfl rfl vB1_filledSlots_32
set_option maxRecDepth 20000 in
theorem vB1_filledSlots_4 : am_vl 1 false (some .int) cX1_filledSlots B1_filledSlots_4 = true := am_vt (tl := B1_filledSlots_26) 12 26 (by decide +kernel) rfl rfl vB1_filledSlots_26
set_option maxRecDepth 20000 in
theorem vB1_filledSlots_0 : am_vl 1 false (some .int) cX1_filledSlots B1_filledSlots_0 = true := am_vt (tl := B1_filledSlots_4) 4 4 (by decide +kernel) rfl rfl vB1_filledSlots_4
def B2_init_47 : List am_I := (47, .return_, 0, 0, .null, []) :: []
def B2_init_0 : List am_I := (0, .aload_n 0, 0, 0, .null, []) :: (1, .invokespecial 3, 0, 0, .null, []) :: (4, .aload_n 0, 0, 0, .null, []) :: (5, .sipush 2720, 0, 0, .int 2720, []) :: (8, .newarray .long, 0, 0, .null, []) :: (10, .putfield 9, 2, 0, .null, []) :: (13, .aload_n 0, 0, 0, .null, []) :: (14, .bipush 60, 0, 0, .int 60, []) :: (16, .newarray .boolean, 0, 0, .null, []) :: (18, .putfield 15, 2, 1, .null, []) :: (21, .aload_n 0, 0, 0, .null, []) :: (22, .bipush 20, 0, 0, .int 20, []) :: (24, .newarray .boolean, 0, 0, .null, []) :: (26, .putfield 19, 2, 2, .null, []) :: (29, .aload_n 0, 0, 0, .null, []) :: (30, .bipush 20, 0, 0, .int 20, []) :: (32, .newarray .int, 0, 0, .null, []) :: (34, .putfield 22, 2, 3, .null, []) :: (37, .aload_n 0, 0, 0, .null, []) :: (38, .iconst 0, 0, 0, .int 0, []) :: (39, .putfield 26, 2, 4, .null, []) :: (42, .aload_n 0, 0, 0, .null, []) :: (43, .iconst 0, 0, 0, .int 0, []) :: (44, .putfield 30, 2, 5, .null, []) :: B2_init_47
set_option maxRecDepth 20000 in
theorem vB2_init_47 : am_vl 2 true none cX2_init B2_init_47 = true := am_vt (tl := []) 1 0 (by decide +kernel) rfl rfl rfl
set_option maxRecDepth 20000 in
theorem vB2_init_0 : am_vl 2 true none cX2_init B2_init_0 = true := am_vt (tl := B2_init_47) 24 47 (by decide +kernel) rfl rfl vB2_init_47
def B2_read_18 : List am_I := (18, .lreturn, 0, 0, .null, []) :: []
def B2_read_17 : List am_I := (17, .lconst 0, 0, 0, .long 0, []) :: B2_read_18
def B2_read_0 : List am_I := (0, .iload_n 1, 0, 0, .null, []) :: (1, .iconst 1, 0, 0, .int 1, []) :: (2, .invokestatic 33, 33, 2, .int 0, []) :: (5, .ifCond .eq 12, 17, 0, .null, []) :: (8, .aload_n 0, 0, 0, .null, []) :: (9, .getfield 9, 2, 0, .null, []) :: (12, .iload_n 1, 0, 0, .null, []) :: (13, .laload, 0, 0, .null, []) :: (14, .goto 4, 18, 0, .null, []) :: B2_read_17
set_option maxRecDepth 20000 in
theorem vB2_read_18 : am_vl 2 false (some .long) cX2_read B2_read_18 = true := am_vt (tl := []) 1 0 (by decide +kernel) rfl rfl rfl
set_option maxRecDepth 20000 in
theorem vB2_read_17 : am_vl 2 false (some .long) cX2_read B2_read_17 = true := am_vt (tl := B2_read_18) 1 18 (by decide +kernel) rfl rfl vB2_read_18
set_option maxRecDepth 20000 in
theorem vB2_read_0 : am_vl 2 false (some .long) cX2_read B2_read_0 = true := am_vt (tl := B2_read_17) 9 17 (by decide +kernel) rfl rfl vB2_read_17
def B2_write_15 : List am_I := (15, .return_, 0, 0, .null, []) :: []
def B2_write_0 : List am_I := (0, .iload_n 1, 0, 0, .null, []) :: (1, .iconst 1, 0, 0, .int 1, []) :: (2, .invokestatic 33, 33, 2, .int 0, []) :: (5, .ifCond .eq 10, 15, 0, .null, []) :: (8, .aload_n 0, 0, 0, .null, []) :: (9, .getfield 9, 2, 0, .null, []) :: (12, .iload_n 1, 0, 0, .null, []) :: (13, .lload_n 2, 0, 0, .null, []) :: (14, .lastore, 0, 0, .null, []) :: B2_write_15
set_option maxRecDepth 20000 in
theorem vB2_write_15 : am_vl 2 false none cX2_write B2_write_15 = true := am_vt (tl := []) 1 0 (by decide +kernel) rfl rfl rfl
set_option maxRecDepth 20000 in
theorem vB2_write_0 : am_vl 2 false none cX2_write B2_write_0 = true := am_vt (tl := B2_write_15) 9 15 (by decide +kernel) rfl rfl vB2_write_15
def B2_moveCells_30 : List am_I := (30, .return_, 0, 0, .null, []) :: []
def B2_moveCells_0 : List am_I := (0, .iload_n 1, 0, 0, .null, []) :: (1, .iload_n 3, 0, 0, .null, []) :: (2, .invokestatic 33, 33, 2, .int 0, []) :: (5, .ifCond .eq 25, 30, 0, .null, []) :: (8, .iload_n 2, 0, 0, .null, []) :: (9, .iload_n 3, 0, 0, .null, []) :: (10, .invokestatic 33, 33, 2, .int 0, []) :: (13, .ifCond .eq 17, 30, 0, .null, []) :: (16, .aload_n 0, 0, 0, .null, []) :: (17, .getfield 9, 2, 0, .null, []) :: (20, .iload_n 1, 0, 0, .null, []) :: (21, .aload_n 0, 0, 0, .null, []) :: (22, .getfield 9, 2, 0, .null, []) :: (25, .iload_n 2, 0, 0, .null, []) :: (26, .iload_n 3, 0, 0, .null, []) :: (27, .invokestatic 37, 0, 0, .long 0, []) :: B2_moveCells_30
set_option maxRecDepth 20000 in
theorem vB2_moveCells_30 : am_vl 2 false none cX2_moveCells B2_moveCells_30 = true := am_vt (tl := []) 1 0 (by decide +kernel) rfl rfl rfl
set_option maxRecDepth 20000 in
theorem vB2_moveCells_0 : am_vl 2 false none cX2_moveCells B2_moveCells_0 = true := am_vt (tl := B2_moveCells_30) 16 30 (by decide +kernel) rfl rfl vB2_moveCells_30
def B2_swapCells_78 : List am_I := (78, .return_, 0, 0, .null, []) :: []
def B2_swapCells_65 : List am_I := (65, .iload_n 2, 0, 0, .null, []) :: (66, .iload 4, 0, 0, .null, []) :: (68, .iadd, 0, 0, .null, []) :: (69, .lload 5, 0, 0, .null, []) :: (71, .lastore, 0, 0, .null, []) :: (72, .iinc 4 1, 0, 0, .int 1, []) :: (75, .goto (-49), 26, 0, .null, []) :: B2_swapCells_78
def B2_swapCells_26 : List am_I := (26, .iload 4, 0, 0, .null, []) :: (28, .iload_n 3, 0, 0, .null, []) :: (29, .if_icmp .ge 49, 78, 0, .null, []) :: (32, .aload_n 0, 0, 0, .null, []) :: (33, .getfield 9, 2, 0, .null, []) :: (36, .iload_n 1, 0, 0, .null, []) :: (37, .iload 4, 0, 0, .null, []) :: (39, .iadd, 0, 0, .null, []) :: (40, .laload, 0, 0, .null, []) :: (41, .lstore 5, 0, 0, .null, []) :: (43, .aload_n 0, 0, 0, .null, []) :: (44, .getfield 9, 2, 0, .null, []) :: (47, .iload_n 1, 0, 0, .null, []) :: (48, .iload 4, 0, 0, .null, []) :: (50, .iadd, 0, 0, .null, []) :: (51, .aload_n 0, 0, 0, .null, []) :: (52, .getfield 9, 2, 0, .null, []) :: (55, .iload_n 2, 0, 0, .null, []) :: (56, .iload 4, 0, 0, .null, []) :: (58, .iadd, 0, 0, .null, []) :: (59, .laload, 0, 0, .null, []) :: (60, .lastore, 0, 0, .null, []) :: (61, .aload_n 0, 0, 0, .null, []) :: (62, .getfield 9, 2, 0, .null, []) :: B2_swapCells_65
def B2_swapCells_23 : List am_I := (23, .iconst 0, 0, 0, .int 0, []) :: (24, .istore 4, 0, 0, .null, []) :: B2_swapCells_26
def B2_swapCells_22 : List am_I := (22, .return_, 0, 0, .null, []) :: B2_swapCells_23
def B2_swapCells_0 : List am_I := (0, .iload_n 3, 0, 0, .null, []) :: (1, .bipush 8, 0, 0, .int 8, []) :: (3, .if_icmp .gt 19, 22, 0, .null, []) :: (6, .iload_n 1, 0, 0, .null, []) :: (7, .iload_n 3, 0, 0, .null, []) :: (8, .invokestatic 33, 33, 2, .int 0, []) :: (11, .ifCond .eq 11, 22, 0, .null, []) :: (14, .iload_n 2, 0, 0, .null, []) :: (15, .iload_n 3, 0, 0, .null, []) :: (16, .invokestatic 33, 33, 2, .int 0, []) :: (19, .ifCond .ne 4, 23, 0, .null, []) :: B2_swapCells_22
set_option maxRecDepth 20000 in
theorem vB2_swapCells_78 : am_vl 2 false none cX2_swapCells B2_swapCells_78 = true := am_vt (tl := []) 1 0 (by decide +kernel) rfl rfl rfl
set_option maxRecDepth 20000 in
theorem vB2_swapCells_65 : am_vl 2 false none cX2_swapCells B2_swapCells_65 = true := am_vt (tl := B2_swapCells_78) 7 78 (by decide +kernel) rfl rfl vB2_swapCells_78
set_option maxRecDepth 20000 in
theorem vB2_swapCells_26 : am_vl 2 false none cX2_swapCells B2_swapCells_26 = true := am_vt (tl := B2_swapCells_65) 24 65 (by decide +kernel) rfl rfl vB2_swapCells_65
set_option maxRecDepth 20000 in
theorem vB2_swapCells_23 : am_vl 2 false none cX2_swapCells B2_swapCells_23 = true := am_vt (tl := B2_swapCells_26) 2 26 (by decide +kernel) rfl rfl vB2_swapCells_26
set_option maxRecDepth 20000 in
theorem vB2_swapCells_22 : am_vl 2 false none cX2_swapCells B2_swapCells_22 = true := am_vt (tl := B2_swapCells_23) 1 23 (by decide +kernel) rfl rfl vB2_swapCells_23
set_option maxRecDepth 20000 in
theorem vB2_swapCells_0 : am_vl 2 false none cX2_swapCells B2_swapCells_0 = true := am_vt (tl := B2_swapCells_22) 11 22 (by decide +kernel) rfl rfl vB2_swapCells_22
def B2_areCells_29 : List am_I := (29, .ireturn, 1, 0, .null, []) :: []
def B2_areCells_28 : List am_I := (28, .iconst 0, 0, 0, .int 0, []) :: B2_areCells_29
def B2_areCells_0 : List am_I := (0, .iload_n 0, 0, 0, .null, []) :: (1, .ifCond .lt 27, 28, 0, .null, []) :: (4, .iload_n 1, 0, 0, .null, []) :: (5, .ifCond .lt 23, 28, 0, .null, []) :: (8, .iload_n 1, 0, 0, .null, []) :: (9, .sipush 2720, 0, 0, .int 2720, []) :: (12, .if_icmp .gt 16, 28, 0, .null, []) :: (15, .iload_n 0, 0, 0, .null, []) :: (16, .sipush 2720, 0, 0, .int 2720, []) :: (19, .iload_n 1, 0, 0, .null, []) :: (20, .isub, 0, 0, .null, []) :: (21, .if_icmp .gt 7, 28, 0, .null, []) :: (24, .iconst 1, 0, 0, .int 1, []) :: (25, .goto 4, 29, 0, .null, []) :: B2_areCells_28
set_option maxRecDepth 20000 in
theorem vB2_areCells_29 : am_vl 2 false (some .boolean) cX2_areCells B2_areCells_29 = true := am_vt (tl := []) 1 0 (by decide +kernel) rfl rfl rfl
set_option maxRecDepth 20000 in
theorem vB2_areCells_28 : am_vl 2 false (some .boolean) cX2_areCells B2_areCells_28 = true := am_vt (tl := B2_areCells_29) 1 29 (by decide +kernel) rfl rfl vB2_areCells_29
set_option maxRecDepth 20000 in
theorem vB2_areCells_0 : am_vl 2 false (some .boolean) cX2_areCells B2_areCells_0 = true := am_vt (tl := B2_areCells_28) 14 28 (by decide +kernel) rfl rfl vB2_areCells_28
def B2_boxesThere_0 : List am_I := (0, .aload_n 0, 0, 0, .null, []) :: (1, .getfield 26, 2, 4, .null, []) :: (4, .ireturn, 0, 0, .null, []) :: []
set_option maxRecDepth 20000 in
theorem vB2_boxesThere_0 : am_vl 2 false (some .int) cX2_boxesThere B2_boxesThere_0 = true := am_vt (tl := []) 3 0 (by decide +kernel) rfl rfl rfl
def B2_rowsThere_0 : List am_I := (0, .aload_n 0, 0, 0, .null, []) :: (1, .getfield 30, 2, 5, .null, []) :: (4, .ireturn, 0, 0, .null, []) :: []
set_option maxRecDepth 20000 in
theorem vB2_rowsThere_0 : am_vl 2 false (some .int) cX2_rowsThere B2_rowsThere_0 = true := am_vt (tl := []) 3 0 (by decide +kernel) rfl rfl rfl
def B2_takeBox_30 : List am_I := (30, .iload_n 1, 0, 0, .null, []) :: (31, .ireturn, 0, 0, .null, []) :: []
def B2_takeBox_0 : List am_I := (0, .aload_n 0, 0, 0, .null, []) :: (1, .getfield 15, 2, 1, .null, []) :: (4, .invokestatic 43, 38, 1, .int 0, []) :: (7, .istore_n 1, 0, 0, .null, []) :: (8, .iload_n 1, 0, 0, .null, []) :: (9, .iconst (-1), 0, 0, .int (-1), []) :: (10, .if_icmp .eq 20, 30, 0, .null, []) :: (13, .aload_n 0, 0, 0, .null, []) :: (14, .getfield 15, 2, 1, .null, []) :: (17, .iload_n 1, 0, 0, .null, []) :: (18, .iconst 1, 0, 0, .int 1, []) :: (19, .bastore, 0, 0, .null, []) :: (20, .aload_n 0, 0, 0, .null, []) :: (21, .dup, 0, 0, .null, []) :: (22, .getfield 26, 2, 4, .null, []) :: (25, .iconst 1, 0, 0, .int 1, []) :: (26, .iadd, 0, 0, .null, []) :: (27, .putfield 26, 2, 4, .null, []) :: B2_takeBox_30
set_option maxRecDepth 20000 in
theorem vB2_takeBox_30 : am_vl 2 false (some .int) cX2_takeBox B2_takeBox_30 = true := am_vt (tl := []) 2 0 (by decide +kernel) rfl rfl rfl
set_option maxRecDepth 20000 in
theorem vB2_takeBox_0 : am_vl 2 false (some .int) cX2_takeBox B2_takeBox_0 = true := am_vt (tl := B2_takeBox_30) 18 30 (by decide +kernel) rfl rfl vB2_takeBox_30
def B2_takeRow_37 : List am_I := (37, .iload_n 2, 0, 0, .null, []) :: (38, .ireturn, 0, 0, .null, []) :: []
def B2_takeRow_0 : List am_I := (0, .aload_n 0, 0, 0, .null, []) :: (1, .getfield 19, 2, 2, .null, []) :: (4, .invokestatic 43, 38, 1, .int 0, []) :: (7, .istore_n 2, 0, 0, .null, []) :: (8, .iload_n 2, 0, 0, .null, []) :: (9, .iconst (-1), 0, 0, .int (-1), []) :: (10, .if_icmp .eq 27, 37, 0, .null, []) :: (13, .aload_n 0, 0, 0, .null, []) :: (14, .getfield 19, 2, 2, .null, []) :: (17, .iload_n 2, 0, 0, .null, []) :: (18, .iconst 1, 0, 0, .int 1, []) :: (19, .bastore, 0, 0, .null, []) :: (20, .aload_n 0, 0, 0, .null, []) :: (21, .getfield 22, 2, 3, .null, []) :: (24, .iload_n 2, 0, 0, .null, []) :: (25, .iload_n 1, 0, 0, .null, []) :: (26, .iastore, 0, 0, .null, []) :: (27, .aload_n 0, 0, 0, .null, []) :: (28, .dup, 0, 0, .null, []) :: (29, .getfield 30, 2, 5, .null, []) :: (32, .iconst 1, 0, 0, .int 1, []) :: (33, .iadd, 0, 0, .null, []) :: (34, .putfield 30, 2, 5, .null, []) :: B2_takeRow_37
set_option maxRecDepth 20000 in
theorem vB2_takeRow_37 : am_vl 2 false (some .int) cX2_takeRow B2_takeRow_37 = true := am_vt (tl := []) 2 0 (by decide +kernel) rfl rfl rfl
set_option maxRecDepth 20000 in
theorem vB2_takeRow_0 : am_vl 2 false (some .int) cX2_takeRow B2_takeRow_0 = true := am_vt (tl := B2_takeRow_37) 23 37 (by decide +kernel) rfl rfl vB2_takeRow_37
def B2_firstFree_22 : List am_I := (22, .iconst (-1), 0, 0, .int (-1), []) :: (23, .ireturn, 0, 0, .null, []) :: []
def B2_firstFree_16 : List am_I := (16, .iinc 1 1, 0, 0, .int 1, []) :: (19, .goto (-17), 2, 0, .null, []) :: B2_firstFree_22
def B2_firstFree_2 : List am_I := (2, .iload_n 1, 0, 0, .null, []) :: (3, .aload_n 0, 0, 0, .null, []) :: (4, .arraylength, 0, 0, .null, []) :: (5, .if_icmp .ge 17, 22, 0, .null, []) :: (8, .aload_n 0, 0, 0, .null, []) :: (9, .iload_n 1, 0, 0, .null, []) :: (10, .baload, 0, 0, .null, []) :: (11, .ifCond .ne 5, 16, 0, .null, []) :: (14, .iload_n 1, 0, 0, .null, []) :: (15, .ireturn, 0, 0, .null, []) :: B2_firstFree_16
def B2_firstFree_0 : List am_I := (0, .iconst 0, 0, 0, .int 0, []) :: (1, .istore_n 1, 0, 0, .null, []) :: B2_firstFree_2
set_option maxRecDepth 20000 in
theorem vB2_firstFree_22 : am_vl 2 false (some .int) cX2_firstFree B2_firstFree_22 = true := am_vt (tl := []) 2 0 (by decide +kernel) rfl rfl rfl
set_option maxRecDepth 20000 in
theorem vB2_firstFree_16 : am_vl 2 false (some .int) cX2_firstFree B2_firstFree_16 = true := am_vt (tl := B2_firstFree_22) 2 22 (by decide +kernel) rfl rfl vB2_firstFree_22
set_option maxRecDepth 20000 in
theorem vB2_firstFree_2 : am_vl 2 false (some .int) cX2_firstFree B2_firstFree_2 = true := am_vt (tl := B2_firstFree_16) 10 16 (by decide +kernel) rfl rfl vB2_firstFree_16
set_option maxRecDepth 20000 in
theorem vB2_firstFree_0 : am_vl 2 false (some .int) cX2_firstFree B2_firstFree_0 = true := am_vt (tl := B2_firstFree_2) 2 2 (by decide +kernel) rfl rfl vB2_firstFree_2
def B2_freeBox_35 : List am_I := (35, .return_, 0, 0, .null, []) :: []
def B2_freeBox_0 : List am_I := (0, .lload_n 1, 0, 0, .null, []) :: (1, .invokestatic 47, 41, 1, .int 0, []) :: (4, .ifCond .eq 31, 35, 0, .null, []) :: (7, .aload_n 0, 0, 0, .null, []) :: (8, .getfield 15, 2, 1, .null, []) :: (11, .lload_n 1, 0, 0, .null, []) :: (12, .l2i, 0, 0, .null, []) :: (13, .baload, 0, 0, .null, []) :: (14, .ifCond .eq 21, 35, 0, .null, []) :: (17, .aload_n 0, 0, 0, .null, []) :: (18, .getfield 15, 2, 1, .null, []) :: (21, .lload_n 1, 0, 0, .null, []) :: (22, .l2i, 0, 0, .null, []) :: (23, .iconst 0, 0, 0, .int 0, []) :: (24, .bastore, 0, 0, .null, []) :: (25, .aload_n 0, 0, 0, .null, []) :: (26, .dup, 0, 0, .null, []) :: (27, .getfield 26, 2, 4, .null, []) :: (30, .iconst 1, 0, 0, .int 1, []) :: (31, .isub, 0, 0, .null, []) :: (32, .putfield 26, 2, 4, .null, []) :: B2_freeBox_35
set_option maxRecDepth 20000 in
theorem vB2_freeBox_35 : am_vl 2 false none cX2_freeBox B2_freeBox_35 = true := am_vt (tl := []) 1 0 (by decide +kernel) rfl rfl rfl
set_option maxRecDepth 20000 in
theorem vB2_freeBox_0 : am_vl 2 false none cX2_freeBox B2_freeBox_0 = true := am_vt (tl := B2_freeBox_35) 21 35 (by decide +kernel) rfl rfl vB2_freeBox_35
def B2_freeRow_35 : List am_I := (35, .return_, 0, 0, .null, []) :: []
def B2_freeRow_0 : List am_I := (0, .lload_n 1, 0, 0, .null, []) :: (1, .invokestatic 51, 42, 1, .int 0, []) :: (4, .ifCond .eq 31, 35, 0, .null, []) :: (7, .aload_n 0, 0, 0, .null, []) :: (8, .getfield 19, 2, 2, .null, []) :: (11, .lload_n 1, 0, 0, .null, []) :: (12, .l2i, 0, 0, .null, []) :: (13, .baload, 0, 0, .null, []) :: (14, .ifCond .eq 21, 35, 0, .null, []) :: (17, .aload_n 0, 0, 0, .null, []) :: (18, .getfield 19, 2, 2, .null, []) :: (21, .lload_n 1, 0, 0, .null, []) :: (22, .l2i, 0, 0, .null, []) :: (23, .iconst 0, 0, 0, .int 0, []) :: (24, .bastore, 0, 0, .null, []) :: (25, .aload_n 0, 0, 0, .null, []) :: (26, .dup, 0, 0, .null, []) :: (27, .getfield 30, 2, 5, .null, []) :: (30, .iconst 1, 0, 0, .int 1, []) :: (31, .isub, 0, 0, .null, []) :: (32, .putfield 30, 2, 5, .null, []) :: B2_freeRow_35
set_option maxRecDepth 20000 in
theorem vB2_freeRow_35 : am_vl 2 false none cX2_freeRow B2_freeRow_35 = true := am_vt (tl := []) 1 0 (by decide +kernel) rfl rfl rfl
set_option maxRecDepth 20000 in
theorem vB2_freeRow_0 : am_vl 2 false none cX2_freeRow B2_freeRow_0 = true := am_vt (tl := B2_freeRow_35) 21 35 (by decide +kernel) rfl rfl vB2_freeRow_35
def B2_isBox_19 : List am_I := (19, .ireturn, 1, 0, .null, []) :: []
def B2_isBox_18 : List am_I := (18, .iconst 0, 0, 0, .int 0, []) :: B2_isBox_19
def B2_isBox_0 : List am_I := (0, .lload_n 0, 0, 0, .null, []) :: (1, .lconst 0, 0, 0, .long 0, []) :: (2, .lcmp, 0, 0, .null, []) :: (3, .ifCond .lt 15, 18, 0, .null, []) :: (6, .lload_n 0, 0, 0, .null, []) :: (7, .ldc2_w 54, 0, 0, .long 60, []) :: (10, .lcmp, 0, 0, .null, []) :: (11, .ifCond .ge 7, 18, 0, .null, []) :: (14, .iconst 1, 0, 0, .int 1, []) :: (15, .goto 4, 19, 0, .null, []) :: B2_isBox_18
set_option maxRecDepth 20000 in
theorem vB2_isBox_19 : am_vl 2 false (some .boolean) cX2_isBox B2_isBox_19 = true := am_vt (tl := []) 1 0 (by decide +kernel) rfl rfl rfl
set_option maxRecDepth 20000 in
theorem vB2_isBox_18 : am_vl 2 false (some .boolean) cX2_isBox B2_isBox_18 = true := am_vt (tl := B2_isBox_19) 1 19 (by decide +kernel) rfl rfl vB2_isBox_19
set_option maxRecDepth 20000 in
theorem vB2_isBox_0 : am_vl 2 false (some .boolean) cX2_isBox B2_isBox_0 = true := am_vt (tl := B2_isBox_18) 10 18 (by decide +kernel) rfl rfl vB2_isBox_18
def B2_isRow_19 : List am_I := (19, .ireturn, 1, 0, .null, []) :: []
def B2_isRow_18 : List am_I := (18, .iconst 0, 0, 0, .int 0, []) :: B2_isRow_19
def B2_isRow_0 : List am_I := (0, .lload_n 0, 0, 0, .null, []) :: (1, .lconst 0, 0, 0, .long 0, []) :: (2, .lcmp, 0, 0, .null, []) :: (3, .ifCond .lt 15, 18, 0, .null, []) :: (6, .lload_n 0, 0, 0, .null, []) :: (7, .ldc2_w 56, 0, 0, .long 20, []) :: (10, .lcmp, 0, 0, .null, []) :: (11, .ifCond .ge 7, 18, 0, .null, []) :: (14, .iconst 1, 0, 0, .int 1, []) :: (15, .goto 4, 19, 0, .null, []) :: B2_isRow_18
set_option maxRecDepth 20000 in
theorem vB2_isRow_19 : am_vl 2 false (some .boolean) cX2_isRow B2_isRow_19 = true := am_vt (tl := []) 1 0 (by decide +kernel) rfl rfl rfl
set_option maxRecDepth 20000 in
theorem vB2_isRow_18 : am_vl 2 false (some .boolean) cX2_isRow B2_isRow_18 = true := am_vt (tl := B2_isRow_19) 1 19 (by decide +kernel) rfl rfl vB2_isRow_19
set_option maxRecDepth 20000 in
theorem vB2_isRow_0 : am_vl 2 false (some .boolean) cX2_isRow B2_isRow_0 = true := am_vt (tl := B2_isRow_18) 10 18 (by decide +kernel) rfl rfl vB2_isRow_18
def B2_boxAt_20 : List am_I := (20, .ireturn, 0, 0, .null, []) :: []
def B2_boxAt_19 : List am_I := (19, .iconst (-1), 0, 0, .int (-1), []) :: B2_boxAt_20
def B2_boxAt_0 : List am_I := (0, .lload_n 1, 0, 0, .null, []) :: (1, .invokestatic 47, 41, 1, .int 0, []) :: (4, .ifCond .eq 15, 19, 0, .null, []) :: (7, .sipush 960, 0, 0, .int 960, []) :: (10, .lload_n 1, 0, 0, .null, []) :: (11, .l2i, 0, 0, .null, []) :: (12, .bipush 8, 0, 0, .int 8, []) :: (14, .imul, 0, 0, .null, []) :: (15, .iadd, 0, 0, .null, []) :: (16, .goto 4, 20, 0, .null, []) :: B2_boxAt_19
set_option maxRecDepth 20000 in
theorem vB2_boxAt_20 : am_vl 2 false (some .int) cX2_boxAt B2_boxAt_20 = true := am_vt (tl := []) 1 0 (by decide +kernel) rfl rfl rfl
set_option maxRecDepth 20000 in
theorem vB2_boxAt_19 : am_vl 2 false (some .int) cX2_boxAt B2_boxAt_19 = true := am_vt (tl := B2_boxAt_20) 1 20 (by decide +kernel) rfl rfl vB2_boxAt_20
set_option maxRecDepth 20000 in
theorem vB2_boxAt_0 : am_vl 2 false (some .int) cX2_boxAt B2_boxAt_0 = true := am_vt (tl := B2_boxAt_19) 10 19 (by decide +kernel) rfl rfl vB2_boxAt_19
def B2_elementAt_25 : List am_I := (25, .ireturn, 0, 0, .null, []) :: []
def B2_elementAt_24 : List am_I := (24, .iconst (-1), 0, 0, .int (-1), []) :: B2_elementAt_25
def B2_elementAt_0 : List am_I := (0, .lload_n 1, 0, 0, .null, []) :: (1, .invokestatic 51, 42, 1, .int 0, []) :: (4, .ifCond .eq 20, 24, 0, .null, []) :: (7, .sipush 1440, 0, 0, .int 1440, []) :: (10, .lload_n 1, 0, 0, .null, []) :: (11, .l2i, 0, 0, .null, []) :: (12, .bipush 64, 0, 0, .int 64, []) :: (14, .imul, 0, 0, .null, []) :: (15, .iadd, 0, 0, .null, []) :: (16, .iload_n 3, 0, 0, .null, []) :: (17, .bipush 8, 0, 0, .int 8, []) :: (19, .imul, 0, 0, .null, []) :: (20, .iadd, 0, 0, .null, []) :: (21, .goto 4, 25, 0, .null, []) :: B2_elementAt_24
set_option maxRecDepth 20000 in
theorem vB2_elementAt_25 : am_vl 2 false (some .int) cX2_elementAt B2_elementAt_25 = true := am_vt (tl := []) 1 0 (by decide +kernel) rfl rfl rfl
set_option maxRecDepth 20000 in
theorem vB2_elementAt_24 : am_vl 2 false (some .int) cX2_elementAt B2_elementAt_24 = true := am_vt (tl := B2_elementAt_25) 1 25 (by decide +kernel) rfl rfl vB2_elementAt_25
set_option maxRecDepth 20000 in
theorem vB2_elementAt_0 : am_vl 2 false (some .int) cX2_elementAt B2_elementAt_0 = true := am_vt (tl := B2_elementAt_24) 14 24 (by decide +kernel) rfl rfl vB2_elementAt_24
def B2_lengthOf_18 : List am_I := (18, .ireturn, 0, 0, .null, []) :: []
def B2_lengthOf_17 : List am_I := (17, .iconst 0, 0, 0, .int 0, []) :: B2_lengthOf_18
def B2_lengthOf_0 : List am_I := (0, .lload_n 1, 0, 0, .null, []) :: (1, .invokestatic 51, 42, 1, .int 0, []) :: (4, .ifCond .eq 13, 17, 0, .null, []) :: (7, .aload_n 0, 0, 0, .null, []) :: (8, .getfield 22, 2, 3, .null, []) :: (11, .lload_n 1, 0, 0, .null, []) :: (12, .l2i, 0, 0, .null, []) :: (13, .iaload, 0, 0, .null, []) :: (14, .goto 4, 18, 0, .null, []) :: B2_lengthOf_17
set_option maxRecDepth 20000 in
theorem vB2_lengthOf_18 : am_vl 2 false (some .int) cX2_lengthOf B2_lengthOf_18 = true := am_vt (tl := []) 1 0 (by decide +kernel) rfl rfl rfl
set_option maxRecDepth 20000 in
theorem vB2_lengthOf_17 : am_vl 2 false (some .int) cX2_lengthOf B2_lengthOf_17 = true := am_vt (tl := B2_lengthOf_18) 1 18 (by decide +kernel) rfl rfl vB2_lengthOf_18
set_option maxRecDepth 20000 in
theorem vB2_lengthOf_0 : am_vl 2 false (some .int) cX2_lengthOf B2_lengthOf_0 = true := am_vt (tl := B2_lengthOf_17) 9 17 (by decide +kernel) rfl rfl vB2_lengthOf_17
def B2_setLength_15 : List am_I := (15, .return_, 0, 0, .null, []) :: []
def B2_setLength_0 : List am_I := (0, .lload_n 1, 0, 0, .null, []) :: (1, .invokestatic 51, 42, 1, .int 0, []) :: (4, .ifCond .eq 11, 15, 0, .null, []) :: (7, .aload_n 0, 0, 0, .null, []) :: (8, .getfield 22, 2, 3, .null, []) :: (11, .lload_n 1, 0, 0, .null, []) :: (12, .l2i, 0, 0, .null, []) :: (13, .iload_n 3, 0, 0, .null, []) :: (14, .iastore, 0, 0, .null, []) :: B2_setLength_15
set_option maxRecDepth 20000 in
theorem vB2_setLength_15 : am_vl 2 false none cX2_setLength B2_setLength_15 = true := am_vt (tl := []) 1 0 (by decide +kernel) rfl rfl rfl
set_option maxRecDepth 20000 in
theorem vB2_setLength_0 : am_vl 2 false none cX2_setLength B2_setLength_0 = true := am_vt (tl := B2_setLength_15) 9 15 (by decide +kernel) rfl rfl vB2_setLength_15
def B3_init_42 : List am_I := (42, .pop, 0, 0, .null, []) :: (43, .return_, 0, 0, .null, []) :: []
def B3_init_0 : List am_I := (0, .aload_n 0, 0, 0, .null, []) :: (1, .invokespecial 3, 0, 0, .null, []) :: (4, .aload_n 0, 0, 0, .null, []) :: (5, .bipush 24, 0, 0, .int 24, []) :: (7, .newarray .int, 0, 0, .null, []) :: (9, .putfield 9, 3, 0, .null, []) :: (12, .aload_n 0, 0, 0, .null, []) :: (13, .bipush 24, 0, 0, .int 24, []) :: (15, .newarray .int, 0, 0, .null, []) :: (17, .putfield 15, 3, 1, .null, []) :: (20, .aload_n 0, 0, 0, .null, []) :: (21, .bipush 72, 0, 0, .int 72, []) :: (23, .newarray .int, 0, 0, .null, []) :: (25, .putfield 18, 3, 2, .null, []) :: (28, .aload_n 0, 0, 0, .null, []) :: (29, .iconst 0, 0, 0, .int 0, []) :: (30, .putfield 21, 3, 3, .null, []) :: (33, .aload_n 0, 0, 0, .null, []) :: (34, .iconst 0, 0, 0, .int 0, []) :: (35, .iconst 1, 0, 0, .int 1, []) :: (36, .iconst (-1), 0, 0, .int (-1), []) :: (37, .iconst (-1), 0, 0, .int (-1), []) :: (38, .iconst (-1), 0, 0, .int (-1), []) :: (39, .invokevirtual 25, 48, 5, .ref 3, []) :: B3_init_42
set_option maxRecDepth 20000 in
theorem vB3_init_42 : am_vl 3 true none cX3_init B3_init_42 = true := am_vt (tl := []) 2 0 (by decide +kernel) rfl rfl rfl
set_option maxRecDepth 20000 in
theorem vB3_init_0 : am_vl 3 true none cX3_init B3_init_0 = true := am_vt (tl := B3_init_42) 24 42 (by decide +kernel) rfl rfl vB3_init_42
def B3_add_93 : List am_I := (93, .iconst 1, 0, 0, .int 1, []) :: (94, .isub, 0, 0, .null, []) :: (95, .ireturn, 0, 0, .null, []) :: []
def B3_add_57 : List am_I := (57, .iconst 3, 0, 0, .int 3, []) :: (58, .imul, 0, 0, .null, []) :: (59, .iconst 1, 0, 0, .int 1, []) :: (60, .iadd, 0, 0, .null, []) :: (61, .iload 4, 0, 0, .null, []) :: (63, .iastore, 0, 0, .null, []) :: (64, .aload_n 0, 0, 0, .null, []) :: (65, .getfield 18, 3, 2, .null, []) :: (68, .aload_n 0, 0, 0, .null, []) :: (69, .getfield 21, 3, 3, .null, []) :: (72, .iconst 3, 0, 0, .int 3, []) :: (73, .imul, 0, 0, .null, []) :: (74, .iconst 2, 0, 0, .int 2, []) :: (75, .iadd, 0, 0, .null, []) :: (76, .iload 5, 0, 0, .null, []) :: (78, .iastore, 0, 0, .null, []) :: (79, .aload_n 0, 0, 0, .null, []) :: (80, .dup, 0, 0, .null, []) :: (81, .getfield 21, 3, 3, .null, []) :: (84, .iconst 1, 0, 0, .int 1, []) :: (85, .iadd, 0, 0, .null, []) :: (86, .putfield 21, 3, 3, .null, []) :: (89, .aload_n 0, 0, 0, .null, []) :: (90, .getfield 21, 3, 3, .null, []) :: B3_add_93
def B3_add_17 : List am_I := (17, .aload_n 0, 0, 0, .null, []) :: (18, .getfield 9, 3, 0, .null, []) :: (21, .aload_n 0, 0, 0, .null, []) :: (22, .getfield 21, 3, 3, .null, []) :: (25, .iload_n 1, 0, 0, .null, []) :: (26, .iastore, 0, 0, .null, []) :: (27, .aload_n 0, 0, 0, .null, []) :: (28, .getfield 15, 3, 1, .null, []) :: (31, .aload_n 0, 0, 0, .null, []) :: (32, .getfield 21, 3, 3, .null, []) :: (35, .iload_n 2, 0, 0, .null, []) :: (36, .iastore, 0, 0, .null, []) :: (37, .aload_n 0, 0, 0, .null, []) :: (38, .getfield 18, 3, 2, .null, []) :: (41, .aload_n 0, 0, 0, .null, []) :: (42, .getfield 21, 3, 3, .null, []) :: (45, .iconst 3, 0, 0, .int 3, []) :: (46, .imul, 0, 0, .null, []) :: (47, .iload_n 3, 0, 0, .null, []) :: (48, .iastore, 0, 0, .null, []) :: (49, .aload_n 0, 0, 0, .null, []) :: (50, .getfield 18, 3, 2, .null, []) :: (53, .aload_n 0, 0, 0, .null, []) :: (54, .getfield 21, 3, 3, .null, []) :: B3_add_57
def B3_add_15 : List am_I := (15, .iconst (-1), 0, 0, .int (-1), []) :: (16, .ireturn, 0, 0, .null, []) :: B3_add_17
def B3_add_0 : List am_I := (0, .aload_n 0, 0, 0, .null, []) :: (1, .getfield 21, 3, 3, .null, []) :: (4, .bipush 24, 0, 0, .int 24, []) :: (6, .if_icmp .ge 9, 15, 0, .null, []) :: (9, .iload_n 2, 0, 0, .null, []) :: (10, .bipush 8, 0, 0, .int 8, []) :: (12, .if_icmp .le 5, 17, 0, .null, []) :: B3_add_15
set_option maxRecDepth 20000 in
theorem vB3_add_93 : am_vl 3 false (some .int) cX3_add B3_add_93 = true := am_vt (tl := []) 3 0 (by decide +kernel) rfl rfl rfl
set_option maxRecDepth 20000 in
theorem vB3_add_57 : am_vl 3 false (some .int) cX3_add B3_add_57 = true := am_vt (tl := B3_add_93) 24 93 (by decide +kernel) rfl rfl vB3_add_93
set_option maxRecDepth 20000 in
theorem vB3_add_17 : am_vl 3 false (some .int) cX3_add B3_add_17 = true := am_vt (tl := B3_add_57) 24 57 (by decide +kernel) rfl rfl vB3_add_57
set_option maxRecDepth 20000 in
theorem vB3_add_15 : am_vl 3 false (some .int) cX3_add B3_add_15 = true := am_vt (tl := B3_add_17) 2 17 (by decide +kernel) rfl rfl vB3_add_17
set_option maxRecDepth 20000 in
theorem vB3_add_0 : am_vl 3 false (some .int) cX3_add B3_add_0 = true := am_vt (tl := B3_add_15) 7 15 (by decide +kernel) rfl rfl vB3_add_15
def B3_tieLooseBox_29 : List am_I := (29, .aload_n 0, 0, 0, .null, []) :: (30, .getfield 18, 3, 2, .null, []) :: (33, .iload_n 1, 0, 0, .null, []) :: (34, .iconst 3, 0, 0, .int 3, []) :: (35, .imul, 0, 0, .null, []) :: (36, .iload_n 2, 0, 0, .null, []) :: (37, .iastore, 0, 0, .null, []) :: (38, .iconst 1, 0, 0, .int 1, []) :: (39, .ireturn, 1, 0, .null, []) :: []
def B3_tieLooseBox_27 : List am_I := (27, .iconst 0, 0, 0, .int 0, []) :: (28, .ireturn, 1, 0, .null, []) :: B3_tieLooseBox_29
def B3_tieLooseBox_0 : List am_I := (0, .aload_n 0, 0, 0, .null, []) :: (1, .iload_n 1, 0, 0, .null, []) :: (2, .invokevirtual 29, 53, 1, .ref 3, []) :: (5, .iconst 4, 0, 0, .int 4, []) :: (6, .if_icmp .ne 21, 27, 0, .null, []) :: (9, .aload_n 0, 0, 0, .null, []) :: (10, .iload_n 1, 0, 0, .null, []) :: (11, .iconst 0, 0, 0, .int 0, []) :: (12, .invokevirtual 33, 55, 2, .ref 3, []) :: (15, .iconst (-1), 0, 0, .int (-1), []) :: (16, .if_icmp .ne 11, 27, 0, .null, []) :: (19, .aload_n 0, 0, 0, .null, []) :: (20, .iload_n 2, 0, 0, .null, []) :: (21, .invokevirtual 37, 51, 1, .ref 3, []) :: (24, .ifCond .ne 5, 29, 0, .null, []) :: B3_tieLooseBox_27
set_option maxRecDepth 20000 in
theorem vB3_tieLooseBox_29 : am_vl 3 false (some .boolean) cX3_tieLooseBox B3_tieLooseBox_29 = true := am_vt (tl := []) 9 0 (by decide +kernel) rfl rfl rfl
set_option maxRecDepth 20000 in
theorem vB3_tieLooseBox_27 : am_vl 3 false (some .boolean) cX3_tieLooseBox B3_tieLooseBox_27 = true := am_vt (tl := B3_tieLooseBox_29) 2 29 (by decide +kernel) rfl rfl vB3_tieLooseBox_29
set_option maxRecDepth 20000 in
theorem vB3_tieLooseBox_0 : am_vl 3 false (some .boolean) cX3_tieLooseBox B3_tieLooseBox_0 = true := am_vt (tl := B3_tieLooseBox_27) 15 27 (by decide +kernel) rfl rfl vB3_tieLooseBox_27
def B3_howMany_0 : List am_I := (0, .aload_n 0, 0, 0, .null, []) :: (1, .getfield 21, 3, 3, .null, []) :: (4, .ireturn, 0, 0, .null, []) :: []
set_option maxRecDepth 20000 in
theorem vB3_howMany_0 : am_vl 3 false (some .int) cX3_howMany B3_howMany_0 = true := am_vt (tl := []) 3 0 (by decide +kernel) rfl rfl rfl
def B3_has_17 : List am_I := (17, .ireturn, 1, 0, .null, []) :: []
def B3_has_16 : List am_I := (16, .iconst 0, 0, 0, .int 0, []) :: B3_has_17
def B3_has_0 : List am_I := (0, .iload_n 1, 0, 0, .null, []) :: (1, .ifCond .lt 15, 16, 0, .null, []) :: (4, .iload_n 1, 0, 0, .null, []) :: (5, .aload_n 0, 0, 0, .null, []) :: (6, .getfield 21, 3, 3, .null, []) :: (9, .if_icmp .ge 7, 16, 0, .null, []) :: (12, .iconst 1, 0, 0, .int 1, []) :: (13, .goto 4, 17, 0, .null, []) :: B3_has_16
set_option maxRecDepth 20000 in
theorem vB3_has_17 : am_vl 3 false (some .boolean) cX3_has B3_has_17 = true := am_vt (tl := []) 1 0 (by decide +kernel) rfl rfl rfl
set_option maxRecDepth 20000 in
theorem vB3_has_16 : am_vl 3 false (some .boolean) cX3_has B3_has_16 = true := am_vt (tl := B3_has_17) 1 17 (by decide +kernel) rfl rfl vB3_has_17
set_option maxRecDepth 20000 in
theorem vB3_has_0 : am_vl 3 false (some .boolean) cX3_has B3_has_0 = true := am_vt (tl := B3_has_16) 8 16 (by decide +kernel) rfl rfl vB3_has_16
def B3_hasOrNone_18 : List am_I := (18, .ireturn, 1, 0, .null, []) :: []
def B3_hasOrNone_17 : List am_I := (17, .iconst 0, 0, 0, .int 0, []) :: B3_hasOrNone_18
def B3_hasOrNone_13 : List am_I := (13, .iconst 1, 0, 0, .int 1, []) :: (14, .goto 4, 18, 0, .null, []) :: B3_hasOrNone_17
def B3_hasOrNone_0 : List am_I := (0, .iload_n 1, 0, 0, .null, []) :: (1, .iconst (-1), 0, 0, .int (-1), []) :: (2, .if_icmp .eq 11, 13, 0, .null, []) :: (5, .aload_n 0, 0, 0, .null, []) :: (6, .iload_n 1, 0, 0, .null, []) :: (7, .invokevirtual 37, 51, 1, .ref 3, []) :: (10, .ifCond .eq 7, 17, 0, .null, []) :: B3_hasOrNone_13
set_option maxRecDepth 20000 in
theorem vB3_hasOrNone_18 : am_vl 3 false (some .boolean) cX3_hasOrNone B3_hasOrNone_18 = true := am_vt (tl := []) 1 0 (by decide +kernel) rfl rfl rfl
set_option maxRecDepth 20000 in
theorem vB3_hasOrNone_17 : am_vl 3 false (some .boolean) cX3_hasOrNone B3_hasOrNone_17 = true := am_vt (tl := B3_hasOrNone_18) 1 18 (by decide +kernel) rfl rfl vB3_hasOrNone_18
set_option maxRecDepth 20000 in
theorem vB3_hasOrNone_13 : am_vl 3 false (some .boolean) cX3_hasOrNone B3_hasOrNone_13 = true := am_vt (tl := B3_hasOrNone_17) 2 17 (by decide +kernel) rfl rfl vB3_hasOrNone_17
set_option maxRecDepth 20000 in
theorem vB3_hasOrNone_0 : am_vl 3 false (some .boolean) cX3_hasOrNone B3_hasOrNone_0 = true := am_vt (tl := B3_hasOrNone_13) 7 13 (by decide +kernel) rfl rfl vB3_hasOrNone_13
def B3_kindOf_18 : List am_I := (18, .ireturn, 0, 0, .null, []) :: []
def B3_kindOf_17 : List am_I := (17, .iconst (-1), 0, 0, .int (-1), []) :: B3_kindOf_18
def B3_kindOf_0 : List am_I := (0, .aload_n 0, 0, 0, .null, []) :: (1, .iload_n 1, 0, 0, .null, []) :: (2, .invokevirtual 37, 51, 1, .ref 3, []) :: (5, .ifCond .eq 12, 17, 0, .null, []) :: (8, .aload_n 0, 0, 0, .null, []) :: (9, .getfield 9, 3, 0, .null, []) :: (12, .iload_n 1, 0, 0, .null, []) :: (13, .iaload, 0, 0, .null, []) :: (14, .goto 4, 18, 0, .null, []) :: B3_kindOf_17
set_option maxRecDepth 20000 in
theorem vB3_kindOf_18 : am_vl 3 false (some .int) cX3_kindOf B3_kindOf_18 = true := am_vt (tl := []) 1 0 (by decide +kernel) rfl rfl rfl
set_option maxRecDepth 20000 in
theorem vB3_kindOf_17 : am_vl 3 false (some .int) cX3_kindOf B3_kindOf_17 = true := am_vt (tl := B3_kindOf_18) 1 18 (by decide +kernel) rfl rfl vB3_kindOf_18
set_option maxRecDepth 20000 in
theorem vB3_kindOf_0 : am_vl 3 false (some .int) cX3_kindOf B3_kindOf_0 = true := am_vt (tl := B3_kindOf_17) 9 17 (by decide +kernel) rfl rfl vB3_kindOf_17
def B3_sizeOf_18 : List am_I := (18, .ireturn, 0, 0, .null, []) :: []
def B3_sizeOf_17 : List am_I := (17, .iconst 0, 0, 0, .int 0, []) :: B3_sizeOf_18
def B3_sizeOf_0 : List am_I := (0, .aload_n 0, 0, 0, .null, []) :: (1, .iload_n 1, 0, 0, .null, []) :: (2, .invokevirtual 37, 51, 1, .ref 3, []) :: (5, .ifCond .eq 12, 17, 0, .null, []) :: (8, .aload_n 0, 0, 0, .null, []) :: (9, .getfield 15, 3, 1, .null, []) :: (12, .iload_n 1, 0, 0, .null, []) :: (13, .iaload, 0, 0, .null, []) :: (14, .goto 4, 18, 0, .null, []) :: B3_sizeOf_17
set_option maxRecDepth 20000 in
theorem vB3_sizeOf_18 : am_vl 3 false (some .int) cX3_sizeOf B3_sizeOf_18 = true := am_vt (tl := []) 1 0 (by decide +kernel) rfl rfl rfl
set_option maxRecDepth 20000 in
theorem vB3_sizeOf_17 : am_vl 3 false (some .int) cX3_sizeOf B3_sizeOf_17 = true := am_vt (tl := B3_sizeOf_18) 1 18 (by decide +kernel) rfl rfl vB3_sizeOf_18
set_option maxRecDepth 20000 in
theorem vB3_sizeOf_0 : am_vl 3 false (some .int) cX3_sizeOf B3_sizeOf_0 = true := am_vt (tl := B3_sizeOf_17) 9 17 (by decide +kernel) rfl rfl vB3_sizeOf_17
def B3_partOf_19 : List am_I := (19, .aload_n 0, 0, 0, .null, []) :: (20, .getfield 18, 3, 2, .null, []) :: (23, .iload_n 1, 0, 0, .null, []) :: (24, .iconst 3, 0, 0, .int 3, []) :: (25, .imul, 0, 0, .null, []) :: (26, .iload_n 2, 0, 0, .null, []) :: (27, .iadd, 0, 0, .null, []) :: (28, .iaload, 0, 0, .null, []) :: (29, .ireturn, 0, 0, .null, []) :: []
def B3_partOf_17 : List am_I := (17, .iconst (-1), 0, 0, .int (-1), []) :: (18, .ireturn, 0, 0, .null, []) :: B3_partOf_19
def B3_partOf_0 : List am_I := (0, .aload_n 0, 0, 0, .null, []) :: (1, .iload_n 1, 0, 0, .null, []) :: (2, .invokevirtual 37, 51, 1, .ref 3, []) :: (5, .ifCond .eq 12, 17, 0, .null, []) :: (8, .iload_n 2, 0, 0, .null, []) :: (9, .ifCond .lt 8, 17, 0, .null, []) :: (12, .iload_n 2, 0, 0, .null, []) :: (13, .iconst 3, 0, 0, .int 3, []) :: (14, .if_icmp .lt 5, 19, 0, .null, []) :: B3_partOf_17
set_option maxRecDepth 20000 in
theorem vB3_partOf_19 : am_vl 3 false (some .int) cX3_partOf B3_partOf_19 = true := am_vt (tl := []) 9 0 (by decide +kernel) rfl rfl rfl
set_option maxRecDepth 20000 in
theorem vB3_partOf_17 : am_vl 3 false (some .int) cX3_partOf B3_partOf_17 = true := am_vt (tl := B3_partOf_19) 2 19 (by decide +kernel) rfl rfl vB3_partOf_19
set_option maxRecDepth 20000 in
theorem vB3_partOf_0 : am_vl 3 false (some .int) cX3_partOf B3_partOf_0 = true := am_vt (tl := B3_partOf_17) 9 17 (by decide +kernel) rfl rfl vB3_partOf_17
def B3_partsOf_28 : List am_I := (28, .iload_n 2, 0, 0, .null, []) :: (29, .ireturn, 0, 0, .null, []) :: []
def B3_partsOf_22 : List am_I := (22, .iinc 3 1, 0, 0, .int 1, []) :: (25, .goto (-21), 4, 0, .null, []) :: B3_partsOf_28
def B3_partsOf_4 : List am_I := (4, .iload_n 3, 0, 0, .null, []) :: (5, .iconst 3, 0, 0, .int 3, []) :: (6, .if_icmp .ge 22, 28, 0, .null, []) :: (9, .aload_n 0, 0, 0, .null, []) :: (10, .iload_n 1, 0, 0, .null, []) :: (11, .iload_n 3, 0, 0, .null, []) :: (12, .invokevirtual 33, 55, 2, .ref 3, []) :: (15, .iconst (-1), 0, 0, .int (-1), []) :: (16, .if_icmp .eq 6, 22, 0, .null, []) :: (19, .iinc 2 1, 0, 0, .int 1, []) :: B3_partsOf_22
def B3_partsOf_0 : List am_I := (0, .iconst 0, 0, 0, .int 0, []) :: (1, .istore_n 2, 0, 0, .null, []) :: (2, .iconst 0, 0, 0, .int 0, []) :: (3, .istore_n 3, 0, 0, .null, []) :: B3_partsOf_4
set_option maxRecDepth 20000 in
theorem vB3_partsOf_28 : am_vl 3 false (some .int) cX3_partsOf B3_partsOf_28 = true := am_vt (tl := []) 2 0 (by decide +kernel) rfl rfl rfl
set_option maxRecDepth 20000 in
theorem vB3_partsOf_22 : am_vl 3 false (some .int) cX3_partsOf B3_partsOf_22 = true := am_vt (tl := B3_partsOf_28) 2 28 (by decide +kernel) rfl rfl vB3_partsOf_28
set_option maxRecDepth 20000 in
theorem vB3_partsOf_4 : am_vl 3 false (some .int) cX3_partsOf B3_partsOf_4 = true := am_vt (tl := B3_partsOf_22) 10 22 (by decide +kernel) rfl rfl vB3_partsOf_22
set_option maxRecDepth 20000 in
theorem vB3_partsOf_0 : am_vl 3 false (some .int) cX3_partsOf B3_partsOf_0 = true := am_vt (tl := B3_partsOf_4) 4 4 (by decide +kernel) rfl rfl vB3_partsOf_4
def B3_offsetOf_37 : List am_I := (37, .iload_n 3, 0, 0, .null, []) :: (38, .ireturn, 0, 0, .null, []) :: []
def B3_offsetOf_5 : List am_I := (5, .iload 4, 0, 0, .null, []) :: (7, .iload_n 2, 0, 0, .null, []) :: (8, .if_icmp .ge 29, 37, 0, .null, []) :: (11, .iload 4, 0, 0, .null, []) :: (13, .iconst 3, 0, 0, .int 3, []) :: (14, .if_icmp .ge 23, 37, 0, .null, []) :: (17, .iload_n 3, 0, 0, .null, []) :: (18, .aload_n 0, 0, 0, .null, []) :: (19, .aload_n 0, 0, 0, .null, []) :: (20, .iload_n 1, 0, 0, .null, []) :: (21, .iload 4, 0, 0, .null, []) :: (23, .invokevirtual 33, 55, 2, .ref 3, []) :: (26, .invokevirtual 41, 54, 1, .ref 3, []) :: (29, .iadd, 0, 0, .null, []) :: (30, .istore_n 3, 0, 0, .null, []) :: (31, .iinc 4 1, 0, 0, .int 1, []) :: (34, .goto (-29), 5, 0, .null, []) :: B3_offsetOf_37
def B3_offsetOf_0 : List am_I := (0, .iconst 0, 0, 0, .int 0, []) :: (1, .istore_n 3, 0, 0, .null, []) :: (2, .iconst 0, 0, 0, .int 0, []) :: (3, .istore 4, 0, 0, .null, []) :: B3_offsetOf_5
set_option maxRecDepth 20000 in
theorem vB3_offsetOf_37 : am_vl 3 false (some .int) cX3_offsetOf B3_offsetOf_37 = true := am_vt (tl := []) 2 0 (by decide +kernel) rfl rfl rfl
set_option maxRecDepth 20000 in
theorem vB3_offsetOf_5 : am_vl 3 false (some .int) cX3_offsetOf B3_offsetOf_5 = true := am_vt (tl := B3_offsetOf_37) 17 37 (by decide +kernel) rfl rfl vB3_offsetOf_37
set_option maxRecDepth 20000 in
theorem vB3_offsetOf_0 : am_vl 3 false (some .int) cX3_offsetOf B3_offsetOf_0 = true := am_vt (tl := B3_offsetOf_5) 4 5 (by decide +kernel) rfl rfl vB3_offsetOf_5
