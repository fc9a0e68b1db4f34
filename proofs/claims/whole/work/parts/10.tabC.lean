def B5_init_131 : List am_I := (131, .return_, 0, 0, .null, []) :: []
def B5_init_112 : List am_I := (112, .iload_n 1, 0, 0, .null, []) :: (113, .bipush 72, 0, 0, .int 72, []) :: (115, .if_icmp .ge 16, 131, 0, .null, []) :: (118, .aload_n 0, 0, 0, .null, []) :: (119, .getfield 16, 5, 2, .null, []) :: (122, .iload_n 1, 0, 0, .null, []) :: (123, .iconst (-1), 0, 0, .int (-1), []) :: (124, .iastore, 0, 0, .null, []) :: (125, .iinc 1 1, 0, 0, .int 1, []) :: (128, .goto (-16), 112, 0, .null, []) :: B5_init_131
def B5_init_95 : List am_I := (95, .sipush 400, 0, 0, .int 400, []) :: (98, .newarray .long, 0, 0, .null, []) :: (100, .putfield 48, 5, 14, .null, []) :: (103, .aload_n 0, 0, 0, .null, []) :: (104, .getfield 13, 5, 1, .null, []) :: (107, .iconst 0, 0, 0, .int 0, []) :: (108, .iconst 1, 0, 0, .int 1, []) :: (109, .iastore, 0, 0, .null, []) :: (110, .iconst 0, 0, 0, .int 0, []) :: (111, .istore_n 1, 0, 0, .null, []) :: B5_init_112
def B5_init_48 : List am_I := (48, .putfield 26, 5, 5, .null, []) :: (51, .aload_n 0, 0, 0, .null, []) :: (52, .sipush 256, 0, 0, .int 256, []) :: (55, .newarray .long, 0, 0, .null, []) :: (57, .putfield 29, 5, 6, .null, []) :: (60, .aload_n 0, 0, 0, .null, []) :: (61, .iconst 1, 0, 0, .int 1, []) :: (62, .putfield 33, 5, 7, .null, []) :: (65, .aload_n 0, 0, 0, .null, []) :: (66, .bipush 24, 0, 0, .int 24, []) :: (68, .newarray .int, 0, 0, .null, []) :: (70, .putfield 36, 5, 9, .null, []) :: (73, .aload_n 0, 0, 0, .null, []) :: (74, .bipush 96, 0, 0, .int 96, []) :: (76, .newarray .int, 0, 0, .null, []) :: (78, .putfield 39, 5, 10, .null, []) :: (81, .aload_n 0, 0, 0, .null, []) :: (82, .bipush 13, 0, 0, .int 13, []) :: (84, .newarray .int, 0, 0, .null, []) :: (86, .putfield 42, 5, 11, .null, []) :: (89, .aload_n 0, 0, 0, .null, []) :: (90, .iconst 1, 0, 0, .int 1, []) :: (91, .putfield 45, 5, 13, .null, []) :: (94, .aload_n 0, 0, 0, .null, []) :: B5_init_95
def B5_init_0 : List am_I := (0, .aload_n 0, 0, 0, .null, []) :: (1, .invokespecial 1, 0, 0, .null, []) :: (4, .aload_n 0, 0, 0, .null, []) :: (5, .bipush 24, 0, 0, .int 24, []) :: (7, .newarray .int, 0, 0, .null, []) :: (9, .putfield 7, 5, 0, .null, []) :: (12, .aload_n 0, 0, 0, .null, []) :: (13, .bipush 24, 0, 0, .int 24, []) :: (15, .newarray .int, 0, 0, .null, []) :: (17, .putfield 13, 5, 1, .null, []) :: (20, .aload_n 0, 0, 0, .null, []) :: (21, .bipush 72, 0, 0, .int 72, []) :: (23, .newarray .int, 0, 0, .null, []) :: (25, .putfield 16, 5, 2, .null, []) :: (28, .aload_n 0, 0, 0, .null, []) :: (29, .iconst 1, 0, 0, .int 1, []) :: (30, .putfield 19, 5, 3, .null, []) :: (33, .aload_n 0, 0, 0, .null, []) :: (34, .sipush 256, 0, 0, .int 256, []) :: (37, .newarray .int, 0, 0, .null, []) :: (39, .putfield 23, 5, 4, .null, []) :: (42, .aload_n 0, 0, 0, .null, []) :: (43, .sipush 2048, 0, 0, .int 2048, []) :: (46, .newarray .int, 0, 0, .null, []) :: B5_init_48
set_option maxRecDepth 20000 in
theorem vB5_init_131 : am_vl 5 true none cX5_init B5_init_131 = true := am_vt (tl := []) 1 0 (by decide +kernel) rfl rfl rfl
set_option maxRecDepth 20000 in
theorem vB5_init_112 : am_vl 5 true none cX5_init B5_init_112 = true := am_vt (tl := B5_init_131) 10 131 (by decide +kernel) rfl rfl vB5_init_131
set_option maxRecDepth 20000 in
theorem vB5_init_95 : am_vl 5 true none cX5_init B5_init_95 = true := am_vt (tl := B5_init_112) 10 112 (by decide +kernel) rfl rfl vB5_init_112
set_option maxRecDepth 20000 in
theorem vB5_init_48 : am_vl 5 true none cX5_init B5_init_48 = true := am_vt (tl := B5_init_95) 24 95 (by decide +kernel) rfl rfl vB5_init_95
set_option maxRecDepth 20000 in
theorem vB5_init_0 : am_vl 5 true none cX5_init B5_init_0 = true := am_vt (tl := B5_init_48) 24 48 (by decide +kernel) rfl rfl vB5_init_48
def B5_in_15 : List am_I := (15, .ireturn, 1, 0, .null, []) :: []
def B5_in_14 : List am_I := (14, .iconst 0, 0, 0, .int 0, []) :: B5_in_15
def B5_in_0 : List am_I := (0, .iload_n 0, 0, 0, .null, []) :: (1, .iload_n 1, 0, 0, .null, []) :: (2, .if_icmp .lt 12, 14, 0, .null, []) :: (5, .iload_n 0, 0, 0, .null, []) :: (6, .iload_n 2, 0, 0, .null, []) :: (7, .if_icmp .gt 7, 14, 0, .null, []) :: (10, .iconst 1, 0, 0, .int 1, []) :: (11, .goto 4, 15, 0, .null, []) :: B5_in_14
set_option maxRecDepth 20000 in
theorem vB5_in_15 : am_vl 5 false (some .boolean) cX5_in B5_in_15 = true := am_vt (tl := []) 1 0 (by decide +kernel) rfl rfl rfl
set_option maxRecDepth 20000 in
theorem vB5_in_14 : am_vl 5 false (some .boolean) cX5_in B5_in_14 = true := am_vt (tl := B5_in_15) 1 15 (by decide +kernel) rfl rfl vB5_in_15
set_option maxRecDepth 20000 in
theorem vB5_in_0 : am_vl 5 false (some .boolean) cX5_in B5_in_0 = true := am_vt (tl := B5_in_14) 8 14 (by decide +kernel) rfl rfl vB5_in_14
def B5_isShape_0 : List am_I := (0, .iload_n 1, 0, 0, .null, []) :: (1, .iconst 0, 0, 0, .int 0, []) :: (2, .aload_n 0, 0, 0, .null, []) :: (3, .getfield 19, 5, 3, .null, []) :: (6, .iconst 1, 0, 0, .int 1, []) :: (7, .isub, 0, 0, .null, []) :: (8, .invokestatic 51, 105, 3, .int 0, []) :: (11, .ireturn, 1, 0, .null, []) :: []
set_option maxRecDepth 20000 in
theorem vB5_isShape_0 : am_vl 5 false (some .boolean) cX5_isShape B5_isShape_0 = true := am_vt (tl := []) 8 0 (by decide +kernel) rfl rfl rfl
def B5_come_93 : List am_I := (93, .iconst 1, 0, 0, .int 1, []) :: (94, .isub, 0, 0, .null, []) :: (95, .ireturn, 0, 0, .null, []) :: []
def B5_come_55 : List am_I := (55, .getfield 19, 5, 3, .null, []) :: (58, .imul, 0, 0, .null, []) :: (59, .iconst 1, 0, 0, .int 1, []) :: (60, .iadd, 0, 0, .null, []) :: (61, .iload 4, 0, 0, .null, []) :: (63, .iastore, 0, 0, .null, []) :: (64, .aload_n 0, 0, 0, .null, []) :: (65, .getfield 16, 5, 2, .null, []) :: (68, .iconst 3, 0, 0, .int 3, []) :: (69, .aload_n 0, 0, 0, .null, []) :: (70, .getfield 19, 5, 3, .null, []) :: (73, .imul, 0, 0, .null, []) :: (74, .iconst 2, 0, 0, .int 2, []) :: (75, .iadd, 0, 0, .null, []) :: (76, .iload 5, 0, 0, .null, []) :: (78, .iastore, 0, 0, .null, []) :: (79, .aload_n 0, 0, 0, .null, []) :: (80, .dup, 0, 0, .null, []) :: (81, .getfield 19, 5, 3, .null, []) :: (84, .iconst 1, 0, 0, .int 1, []) :: (85, .iadd, 0, 0, .null, []) :: (86, .putfield 19, 5, 3, .null, []) :: (89, .aload_n 0, 0, 0, .null, []) :: (90, .getfield 19, 5, 3, .null, []) :: B5_come_93
def B5_come_17 : List am_I := (17, .aload_n 0, 0, 0, .null, []) :: (18, .getfield 7, 5, 0, .null, []) :: (21, .aload_n 0, 0, 0, .null, []) :: (22, .getfield 19, 5, 3, .null, []) :: (25, .iload_n 1, 0, 0, .null, []) :: (26, .iastore, 0, 0, .null, []) :: (27, .aload_n 0, 0, 0, .null, []) :: (28, .getfield 13, 5, 1, .null, []) :: (31, .aload_n 0, 0, 0, .null, []) :: (32, .getfield 19, 5, 3, .null, []) :: (35, .iload_n 2, 0, 0, .null, []) :: (36, .iastore, 0, 0, .null, []) :: (37, .aload_n 0, 0, 0, .null, []) :: (38, .getfield 16, 5, 2, .null, []) :: (41, .iconst 3, 0, 0, .int 3, []) :: (42, .aload_n 0, 0, 0, .null, []) :: (43, .getfield 19, 5, 3, .null, []) :: (46, .imul, 0, 0, .null, []) :: (47, .iload_n 3, 0, 0, .null, []) :: (48, .iastore, 0, 0, .null, []) :: (49, .aload_n 0, 0, 0, .null, []) :: (50, .getfield 16, 5, 2, .null, []) :: (53, .iconst 3, 0, 0, .int 3, []) :: (54, .aload_n 0, 0, 0, .null, []) :: B5_come_55
def B5_come_15 : List am_I := (15, .iconst (-1), 0, 0, .int (-1), []) :: (16, .ireturn, 0, 0, .null, []) :: B5_come_17
def B5_come_0 : List am_I := (0, .aload_n 0, 0, 0, .null, []) :: (1, .getfield 19, 5, 3, .null, []) :: (4, .bipush 24, 0, 0, .int 24, []) :: (6, .if_icmp .eq 9, 15, 0, .null, []) :: (9, .iload_n 2, 0, 0, .null, []) :: (10, .bipush 8, 0, 0, .int 8, []) :: (12, .if_icmp .le 5, 17, 0, .null, []) :: B5_come_15
set_option maxRecDepth 20000 in
theorem vB5_come_93 : am_vl 5 false (some .int) cX5_come B5_come_93 = true := am_vt (tl := []) 3 0 (by decide +kernel) rfl rfl rfl
set_option maxRecDepth 20000 in
theorem vB5_come_55 : am_vl 5 false (some .int) cX5_come B5_come_55 = true := am_vt (tl := B5_come_93) 24 93 (by decide +kernel) rfl rfl vB5_come_93
set_option maxRecDepth 20000 in
theorem vB5_come_17 : am_vl 5 false (some .int) cX5_come B5_come_17 = true := am_vt (tl := B5_come_55) 24 55 (by decide +kernel) rfl rfl vB5_come_55
set_option maxRecDepth 20000 in
theorem vB5_come_15 : am_vl 5 false (some .int) cX5_come B5_come_15 = true := am_vt (tl := B5_come_17) 2 17 (by decide +kernel) rfl rfl vB5_come_17
set_option maxRecDepth 20000 in
theorem vB5_come_0 : am_vl 5 false (some .int) cX5_come B5_come_0 = true := am_vt (tl := B5_come_15) 7 15 (by decide +kernel) rfl rfl vB5_come_15
def B5_sizeOf_15 : List am_I := (15, .ireturn, 0, 0, .null, []) :: []
def B5_sizeOf_9 : List am_I := (9, .aload_n 0, 0, 0, .null, []) :: (10, .getfield 13, 5, 1, .null, []) :: (13, .iload_n 1, 0, 0, .null, []) :: (14, .iaload, 0, 0, .null, []) :: B5_sizeOf_15
def B5_sizeOf_0 : List am_I := (0, .iload_n 1, 0, 0, .null, []) :: (1, .iconst (-1), 0, 0, .int (-1), []) :: (2, .if_icmp .ne 7, 9, 0, .null, []) :: (5, .iconst 0, 0, 0, .int 0, []) :: (6, .goto 9, 15, 0, .null, []) :: B5_sizeOf_9
set_option maxRecDepth 20000 in
theorem vB5_sizeOf_15 : am_vl 5 false (some .int) cX5_sizeOf B5_sizeOf_15 = true := am_vt (tl := []) 1 0 (by decide +kernel) rfl rfl rfl
set_option maxRecDepth 20000 in
theorem vB5_sizeOf_9 : am_vl 5 false (some .int) cX5_sizeOf B5_sizeOf_9 = true := am_vt (tl := B5_sizeOf_15) 4 15 (by decide +kernel) rfl rfl vB5_sizeOf_15
set_option maxRecDepth 20000 in
theorem vB5_sizeOf_0 : am_vl 5 false (some .int) cX5_sizeOf B5_sizeOf_0 = true := am_vt (tl := B5_sizeOf_9) 5 9 (by decide +kernel) rfl rfl vB5_sizeOf_9
def B5_record_74 : List am_I := (74, .aload_n 0, 0, 0, .null, []) :: (75, .getfield 13, 5, 1, .null, []) :: (78, .iload_n 2, 0, 0, .null, []) :: (79, .iaload, 0, 0, .null, []) :: (80, .aload_n 0, 0, 0, .null, []) :: (81, .iload_n 3, 0, 0, .null, []) :: (82, .invokevirtual 59, 108, 1, .ref 5, []) :: (85, .iadd, 0, 0, .null, []) :: (86, .aload_n 0, 0, 0, .null, []) :: (87, .iload 4, 0, 0, .null, []) :: (89, .invokevirtual 59, 108, 1, .ref 5, []) :: (92, .iadd, 0, 0, .null, []) :: (93, .iload_n 2, 0, 0, .null, []) :: (94, .iload_n 3, 0, 0, .null, []) :: (95, .iload 4, 0, 0, .null, []) :: (97, .invokevirtual 63, 107, 5, .ref 5, []) :: (100, .ireturn, 0, 0, .null, []) :: []
def B5_record_73 : List am_I := (73, .iconst 1, 0, 0, .int 1, []) :: B5_record_74
def B5_record_64 : List am_I := (64, .aload_n 0, 0, 0, .null, []) :: (65, .iload_n 1, 0, 0, .null, []) :: (66, .ifCond .eq 7, 73, 0, .null, []) :: (69, .iconst 2, 0, 0, .int 2, []) :: (70, .goto 4, 74, 0, .null, []) :: B5_record_73
def B5_record_49 : List am_I := (49, .iload_n 1, 0, 0, .null, []) :: (50, .ifCond .eq 14, 64, 0, .null, []) :: (53, .aload_n 0, 0, 0, .null, []) :: (54, .getfield 7, 5, 0, .null, []) :: (57, .iload_n 2, 0, 0, .null, []) :: (58, .iaload, 0, 0, .null, []) :: (59, .ifCond .eq 5, 64, 0, .null, []) :: (62, .iconst (-1), 0, 0, .int (-1), []) :: (63, .ireturn, 0, 0, .null, []) :: B5_record_64
def B5_record_47 : List am_I := (47, .iconst (-1), 0, 0, .int (-1), []) :: (48, .ireturn, 0, 0, .null, []) :: B5_record_49
def B5_record_36 : List am_I := (36, .iload_n 3, 0, 0, .null, []) :: (37, .iconst (-1), 0, 0, .int (-1), []) :: (38, .if_icmp .ne 11, 49, 0, .null, []) :: (41, .iload 4, 0, 0, .null, []) :: (43, .iconst (-1), 0, 0, .int (-1), []) :: (44, .if_icmp .eq 5, 49, 0, .null, []) :: B5_record_47
def B5_record_21 : List am_I := (21, .iload 4, 0, 0, .null, []) :: (23, .iconst (-1), 0, 0, .int (-1), []) :: (24, .if_icmp .eq 12, 36, 0, .null, []) :: (27, .aload_n 0, 0, 0, .null, []) :: (28, .iload 4, 0, 0, .null, []) :: (30, .invokevirtual 55, 106, 1, .ref 5, []) :: (33, .ifCond .eq 14, 47, 0, .null, []) :: B5_record_36
def B5_record_0 : List am_I := (0, .aload_n 0, 0, 0, .null, []) :: (1, .iload_n 2, 0, 0, .null, []) :: (2, .invokevirtual 55, 106, 1, .ref 5, []) :: (5, .ifCond .eq 42, 47, 0, .null, []) :: (8, .iload_n 3, 0, 0, .null, []) :: (9, .iconst (-1), 0, 0, .int (-1), []) :: (10, .if_icmp .eq 11, 21, 0, .null, []) :: (13, .aload_n 0, 0, 0, .null, []) :: (14, .iload_n 3, 0, 0, .null, []) :: (15, .invokevirtual 55, 106, 1, .ref 5, []) :: (18, .ifCond .eq 29, 47, 0, .null, []) :: B5_record_21
set_option maxRecDepth 20000 in
theorem vB5_record_74 : am_vl 5 false (some .int) cX5_record B5_record_74 = true := am_vt (tl := []) 17 0 (by decide +kernel) rfl rfl rfl
set_option maxRecDepth 20000 in
theorem vB5_record_73 : am_vl 5 false (some .int) cX5_record B5_record_73 = true := am_vt (tl := B5_record_74) 1 74 (by decide +kernel) rfl rfl vB5_record_74
set_option maxRecDepth 20000 in
theorem vB5_record_64 : am_vl 5 false (some .int) cX5_record B5_record_64 = true := am_vt (tl := B5_record_73) 5 73 (by decide +kernel) rfl rfl vB5_record_73
set_option maxRecDepth 20000 in
theorem vB5_record_49 : am_vl 5 false (some .int) cX5_record B5_record_49 = true := am_vt (tl := B5_record_64) 9 64 (by decide +kernel) rfl rfl vB5_record_64
set_option maxRecDepth 20000 in
theorem vB5_record_47 : am_vl 5 false (some .int) cX5_record B5_record_47 = true := am_vt (tl := B5_record_49) 2 49 (by decide +kernel) rfl rfl vB5_record_49
set_option maxRecDepth 20000 in
theorem vB5_record_36 : am_vl 5 false (some .int) cX5_record B5_record_36 = true := am_vt (tl := B5_record_47) 6 47 (by decide +kernel) rfl rfl vB5_record_47
set_option maxRecDepth 20000 in
theorem vB5_record_21 : am_vl 5 false (some .int) cX5_record B5_record_21 = true := am_vt (tl := B5_record_36) 7 36 (by decide +kernel) rfl rfl vB5_record_36
set_option maxRecDepth 20000 in
theorem vB5_record_0 : am_vl 5 false (some .int) cX5_record B5_record_0 = true := am_vt (tl := B5_record_21) 11 21 (by decide +kernel) rfl rfl vB5_record_21
def B5_choice_41 : List am_I := (41, .aload_n 0, 0, 0, .null, []) :: (42, .iconst 3, 0, 0, .int 3, []) :: (43, .iconst 1, 0, 0, .int 1, []) :: (44, .aload_n 0, 0, 0, .null, []) :: (45, .iload_n 1, 0, 0, .null, []) :: (46, .invokevirtual 59, 108, 1, .ref 5, []) :: (49, .aload_n 0, 0, 0, .null, []) :: (50, .iload_n 2, 0, 0, .null, []) :: (51, .invokevirtual 59, 108, 1, .ref 5, []) :: (54, .aload_n 0, 0, 0, .null, []) :: (55, .iload_n 3, 0, 0, .null, []) :: (56, .invokevirtual 59, 108, 1, .ref 5, []) :: (59, .invokestatic 67, 0, 0, .null, []) :: (62, .invokestatic 67, 0, 0, .null, []) :: (65, .iadd, 0, 0, .null, []) :: (66, .iload_n 1, 0, 0, .null, []) :: (67, .iload_n 2, 0, 0, .null, []) :: (68, .iload_n 3, 0, 0, .null, []) :: (69, .invokevirtual 63, 107, 5, .ref 5, []) :: (72, .ireturn, 0, 0, .null, []) :: []
def B5_choice_39 : List am_I := (39, .iconst (-1), 0, 0, .int (-1), []) :: (40, .ireturn, 0, 0, .null, []) :: B5_choice_41
def B5_choice_26 : List am_I := (26, .iload_n 3, 0, 0, .null, []) :: (27, .iconst (-1), 0, 0, .int (-1), []) :: (28, .if_icmp .eq 13, 41, 0, .null, []) :: (31, .aload_n 0, 0, 0, .null, []) :: (32, .iload_n 3, 0, 0, .null, []) :: (33, .invokevirtual 55, 106, 1, .ref 5, []) :: (36, .ifCond .ne 5, 41, 0, .null, []) :: B5_choice_39
def B5_choice_13 : List am_I := (13, .iload_n 2, 0, 0, .null, []) :: (14, .iconst (-1), 0, 0, .int (-1), []) :: (15, .if_icmp .eq 11, 26, 0, .null, []) :: (18, .aload_n 0, 0, 0, .null, []) :: (19, .iload_n 2, 0, 0, .null, []) :: (20, .invokevirtual 55, 106, 1, .ref 5, []) :: (23, .ifCond .eq 16, 39, 0, .null, []) :: B5_choice_26
def B5_choice_0 : List am_I := (0, .iload_n 1, 0, 0, .null, []) :: (1, .iconst (-1), 0, 0, .int (-1), []) :: (2, .if_icmp .eq 11, 13, 0, .null, []) :: (5, .aload_n 0, 0, 0, .null, []) :: (6, .iload_n 1, 0, 0, .null, []) :: (7, .invokevirtual 55, 106, 1, .ref 5, []) :: (10, .ifCond .eq 29, 39, 0, .null, []) :: B5_choice_13
set_option maxRecDepth 20000 in
theorem vB5_choice_41 : am_vl 5 false (some .int) cX5_choice B5_choice_41 = true := am_vt (tl := []) 20 0 (by decide +kernel) rfl rfl rfl
set_option maxRecDepth 20000 in
theorem vB5_choice_39 : am_vl 5 false (some .int) cX5_choice B5_choice_39 = true := am_vt (tl := B5_choice_41) 2 41 (by decide +kernel) rfl rfl vB5_choice_41
set_option maxRecDepth 20000 in
theorem vB5_choice_26 : am_vl 5 false (some .int) cX5_choice B5_choice_26 = true := am_vt (tl := B5_choice_39) 7 39 (by decide +kernel) rfl rfl vB5_choice_39
set_option maxRecDepth 20000 in
theorem vB5_choice_13 : am_vl 5 false (some .int) cX5_choice B5_choice_13 = true := am_vt (tl := B5_choice_26) 7 26 (by decide +kernel) rfl rfl vB5_choice_26
set_option maxRecDepth 20000 in
theorem vB5_choice_0 : am_vl 5 false (some .int) cX5_choice B5_choice_0 = true := am_vt (tl := B5_choice_13) 7 13 (by decide +kernel) rfl rfl vB5_choice_13
def B5_box_26 : List am_I := (26, .ireturn, 0, 0, .null, []) :: []
def B5_box_25 : List am_I := (25, .iconst (-1), 0, 0, .int (-1), []) :: B5_box_26
def B5_box_13 : List am_I := (13, .aload_n 0, 0, 0, .null, []) :: (14, .iconst 4, 0, 0, .int 4, []) :: (15, .iconst 1, 0, 0, .int 1, []) :: (16, .iload_n 1, 0, 0, .null, []) :: (17, .iconst (-1), 0, 0, .int (-1), []) :: (18, .iconst (-1), 0, 0, .int (-1), []) :: (19, .invokevirtual 63, 107, 5, .ref 5, []) :: (22, .goto 4, 26, 0, .null, []) :: B5_box_25
def B5_box_0 : List am_I := (0, .iload_n 1, 0, 0, .null, []) :: (1, .iconst (-1), 0, 0, .int (-1), []) :: (2, .if_icmp .eq 11, 13, 0, .null, []) :: (5, .aload_n 0, 0, 0, .null, []) :: (6, .iload_n 1, 0, 0, .null, []) :: (7, .invokevirtual 55, 106, 1, .ref 5, []) :: (10, .ifCond .eq 15, 25, 0, .null, []) :: B5_box_13
set_option maxRecDepth 20000 in
theorem vB5_box_26 : am_vl 5 false (some .int) cX5_box B5_box_26 = true := am_vt (tl := []) 1 0 (by decide +kernel) rfl rfl rfl
set_option maxRecDepth 20000 in
theorem vB5_box_25 : am_vl 5 false (some .int) cX5_box B5_box_25 = true := am_vt (tl := B5_box_26) 1 26 (by decide +kernel) rfl rfl vB5_box_26
set_option maxRecDepth 20000 in
theorem vB5_box_13 : am_vl 5 false (some .int) cX5_box B5_box_13 = true := am_vt (tl := B5_box_25) 8 25 (by decide +kernel) rfl rfl vB5_box_25
set_option maxRecDepth 20000 in
theorem vB5_box_0 : am_vl 5 false (some .int) cX5_box B5_box_0 = true := am_vt (tl := B5_box_13) 7 13 (by decide +kernel) rfl rfl vB5_box_13
def B5_tie_40 : List am_I := (40, .aload_n 0, 0, 0, .null, []) :: (41, .getfield 16, 5, 2, .null, []) :: (44, .iconst 3, 0, 0, .int 3, []) :: (45, .iload_n 1, 0, 0, .null, []) :: (46, .imul, 0, 0, .null, []) :: (47, .iload_n 2, 0, 0, .null, []) :: (48, .iastore, 0, 0, .null, []) :: (49, .iconst 1, 0, 0, .int 1, []) :: (50, .ireturn, 0, 0, .null, []) :: []
def B5_tie_38 : List am_I := (38, .iconst (-1), 0, 0, .int (-1), []) :: (39, .ireturn, 0, 0, .null, []) :: B5_tie_40
def B5_tie_0 : List am_I := (0, .aload_n 0, 0, 0, .null, []) :: (1, .iload_n 1, 0, 0, .null, []) :: (2, .invokevirtual 55, 106, 1, .ref 5, []) :: (5, .ifCond .eq 33, 38, 0, .null, []) :: (8, .aload_n 0, 0, 0, .null, []) :: (9, .getfield 7, 5, 0, .null, []) :: (12, .iload_n 1, 0, 0, .null, []) :: (13, .iaload, 0, 0, .null, []) :: (14, .iconst 4, 0, 0, .int 4, []) :: (15, .if_icmp .ne 23, 38, 0, .null, []) :: (18, .aload_n 0, 0, 0, .null, []) :: (19, .getfield 16, 5, 2, .null, []) :: (22, .iconst 3, 0, 0, .int 3, []) :: (23, .iload_n 1, 0, 0, .null, []) :: (24, .imul, 0, 0, .null, []) :: (25, .iaload, 0, 0, .null, []) :: (26, .iconst (-1), 0, 0, .int (-1), []) :: (27, .if_icmp .ne 11, 38, 0, .null, []) :: (30, .aload_n 0, 0, 0, .null, []) :: (31, .iload_n 2, 0, 0, .null, []) :: (32, .invokevirtual 55, 106, 1, .ref 5, []) :: (35, .ifCond .ne 5, 40, 0, .null, []) :: B5_tie_38
set_option maxRecDepth 20000 in
theorem vB5_tie_40 : am_vl 5 false (some .int) cX5_tie B5_tie_40 = true := am_vt (tl := []) 9 0 (by decide +kernel) rfl rfl rfl
set_option maxRecDepth 20000 in
theorem vB5_tie_38 : am_vl 5 false (some .int) cX5_tie B5_tie_38 = true := am_vt (tl := B5_tie_40) 2 40 (by decide +kernel) rfl rfl vB5_tie_40
set_option maxRecDepth 20000 in
theorem vB5_tie_0 : am_vl 5 false (some .int) cX5_tie B5_tie_0 = true := am_vt (tl := B5_tie_38) 22 38 (by decide +kernel) rfl rfl vB5_tie_38
def B5_row_21 : List am_I := (21, .ireturn, 0, 0, .null, []) :: []
def B5_row_20 : List am_I := (20, .iconst (-1), 0, 0, .int (-1), []) :: B5_row_21
def B5_row_0 : List am_I := (0, .aload_n 0, 0, 0, .null, []) :: (1, .iload_n 1, 0, 0, .null, []) :: (2, .invokevirtual 55, 106, 1, .ref 5, []) :: (5, .ifCond .eq 15, 20, 0, .null, []) :: (8, .aload_n 0, 0, 0, .null, []) :: (9, .iconst 5, 0, 0, .int 5, []) :: (10, .iconst 1, 0, 0, .int 1, []) :: (11, .iload_n 1, 0, 0, .null, []) :: (12, .iconst (-1), 0, 0, .int (-1), []) :: (13, .iconst (-1), 0, 0, .int (-1), []) :: (14, .invokevirtual 63, 107, 5, .ref 5, []) :: (17, .goto 4, 21, 0, .null, []) :: B5_row_20
set_option maxRecDepth 20000 in
theorem vB5_row_21 : am_vl 5 false (some .int) cX5_row B5_row_21 = true := am_vt (tl := []) 1 0 (by decide +kernel) rfl rfl rfl
set_option maxRecDepth 20000 in
theorem vB5_row_20 : am_vl 5 false (some .int) cX5_row B5_row_20 = true := am_vt (tl := B5_row_21) 1 21 (by decide +kernel) rfl rfl vB5_row_21
set_option maxRecDepth 20000 in
theorem vB5_row_0 : am_vl 5 false (some .int) cX5_row B5_row_0 = true := am_vt (tl := B5_row_20) 12 20 (by decide +kernel) rfl rfl vB5_row_20
def B5_about_62 : List am_I := (62, .ireturn, 0, 0, .null, []) :: []
def B5_about_61 : List am_I := (61, .iconst (-1), 0, 0, .int (-1), []) :: B5_about_62
def B5_about_37 : List am_I := (37, .iload_n 2, 0, 0, .null, []) :: (38, .iconst 2, 0, 0, .int 2, []) :: (39, .iconst 4, 0, 0, .int 4, []) :: (40, .invokestatic 51, 105, 3, .int 0, []) :: (43, .ifCond .eq 18, 61, 0, .null, []) :: (46, .aload_n 0, 0, 0, .null, []) :: (47, .getfield 16, 5, 2, .null, []) :: (50, .iconst 3, 0, 0, .int 3, []) :: (51, .iload_n 1, 0, 0, .null, []) :: (52, .imul, 0, 0, .null, []) :: (53, .iload_n 2, 0, 0, .null, []) :: (54, .iadd, 0, 0, .null, []) :: (55, .iconst 2, 0, 0, .int 2, []) :: (56, .isub, 0, 0, .null, []) :: (57, .iaload, 0, 0, .null, []) :: (58, .goto 4, 62, 0, .null, []) :: B5_about_61
def B5_about_23 : List am_I := (23, .iload_n 2, 0, 0, .null, []) :: (24, .iconst 1, 0, 0, .int 1, []) :: (25, .if_icmp .ne 12, 37, 0, .null, []) :: (28, .aload_n 0, 0, 0, .null, []) :: (29, .getfield 13, 5, 1, .null, []) :: (32, .iload_n 1, 0, 0, .null, []) :: (33, .iaload, 0, 0, .null, []) :: (34, .goto 28, 62, 0, .null, []) :: B5_about_37
def B5_about_10 : List am_I := (10, .iload_n 2, 0, 0, .null, []) :: (11, .ifCond .ne 12, 23, 0, .null, []) :: (14, .aload_n 0, 0, 0, .null, []) :: (15, .getfield 7, 5, 0, .null, []) :: (18, .iload_n 1, 0, 0, .null, []) :: (19, .iaload, 0, 0, .null, []) :: (20, .goto 42, 62, 0, .null, []) :: B5_about_23
def B5_about_0 : List am_I := (0, .aload_n 0, 0, 0, .null, []) :: (1, .iload_n 1, 0, 0, .null, []) :: (2, .invokevirtual 55, 106, 1, .ref 5, []) :: (5, .ifCond .ne 5, 10, 0, .null, []) :: (8, .iconst (-1), 0, 0, .int (-1), []) :: (9, .ireturn, 0, 0, .null, []) :: B5_about_10
set_option maxRecDepth 20000 in
theorem vB5_about_62 : am_vl 5 false (some .int) cX5_about B5_about_62 = true := am_vt (tl := []) 1 0 (by decide +kernel) rfl rfl rfl
set_option maxRecDepth 20000 in
theorem vB5_about_61 : am_vl 5 false (some .int) cX5_about B5_about_61 = true := am_vt (tl := B5_about_62) 1 62 (by decide +kernel) rfl rfl vB5_about_62
set_option maxRecDepth 20000 in
theorem vB5_about_37 : am_vl 5 false (some .int) cX5_about B5_about_37 = true := am_vt (tl := B5_about_61) 16 61 (by decide +kernel) rfl rfl vB5_about_61
set_option maxRecDepth 20000 in
theorem vB5_about_23 : am_vl 5 false (some .int) cX5_about B5_about_23 = true := am_vt (tl := B5_about_37) 8 37 (by decide +kernel) rfl rfl vB5_about_37
set_option maxRecDepth 20000 in
theorem vB5_about_10 : am_vl 5 false (some .int) cX5_about B5_about_10 = true := am_vt (tl := B5_about_23) 7 23 (by decide +kernel) rfl rfl vB5_about_23
set_option maxRecDepth 20000 in
theorem vB5_about_0 : am_vl 5 false (some .int) cX5_about B5_about_0 = true := am_vt (tl := B5_about_10) 6 10 (by decide +kernel) rfl rfl vB5_about_10
def B5_node_106 : List am_I := (106, .iload 4, 0, 0, .null, []) :: (108, .ireturn, 0, 0, .null, []) :: []
def B5_node_79 : List am_I := (79, .iload 5, 0, 0, .null, []) :: (81, .bipush 8, 0, 0, .int 8, []) :: (83, .if_icmp .ge 23, 106, 0, .null, []) :: (86, .aload_n 0, 0, 0, .null, []) :: (87, .getfield 26, 5, 5, .null, []) :: (90, .bipush 8, 0, 0, .int 8, []) :: (92, .iload 4, 0, 0, .null, []) :: (94, .imul, 0, 0, .null, []) :: (95, .iload 5, 0, 0, .null, []) :: (97, .iadd, 0, 0, .null, []) :: (98, .iconst 0, 0, 0, .int 0, []) :: (99, .iastore, 0, 0, .null, []) :: (100, .iinc 5 1, 0, 0, .int 1, []) :: (103, .goto (-24), 79, 0, .null, []) :: B5_node_106
def B5_node_60 : List am_I := (60, .aload_n 0, 0, 0, .null, []) :: (61, .getfield 23, 5, 4, .null, []) :: (64, .iload 4, 0, 0, .null, []) :: (66, .iload_n 1, 0, 0, .null, []) :: (67, .iastore, 0, 0, .null, []) :: (68, .aload_n 0, 0, 0, .null, []) :: (69, .getfield 29, 5, 6, .null, []) :: (72, .iload 4, 0, 0, .null, []) :: (74, .lload_n 2, 0, 0, .null, []) :: (75, .lastore, 0, 0, .null, []) :: (76, .iconst 0, 0, 0, .int 0, []) :: (77, .istore 5, 0, 0, .null, []) :: B5_node_79
def B5_node_44 : List am_I := (44, .aload_n 0, 0, 0, .null, []) :: (45, .getfield 33, 5, 7, .null, []) :: (48, .istore 4, 0, 0, .null, []) :: (50, .aload_n 0, 0, 0, .null, []) :: (51, .dup, 0, 0, .null, []) :: (52, .getfield 33, 5, 7, .null, []) :: (55, .iconst 1, 0, 0, .int 1, []) :: (56, .iadd, 0, 0, .null, []) :: (57, .putfield 33, 5, 7, .null, []) :: B5_node_60
def B5_node_28 : List am_I := (28, .aload_n 0, 0, 0, .null, []) :: (29, .getfield 33, 5, 7, .null, []) :: (32, .aload_n 0, 0, 0, .null, []) :: (33, .getfield 23, 5, 4, .null, []) :: (36, .arraylength, 0, 0, .null, []) :: (37, .if_icmp .ne 7, 44, 0, .null, []) :: (40, .aload_n 0, 0, 0, .null, []) :: (41, .invokevirtual 76, 116, 0, .ref 5, []) :: B5_node_44
def B5_node_0 : List am_I := (0, .aload_n 0, 0, 0, .null, []) :: (1, .getfield 73, 5, 8, .null, []) :: (4, .istore 4, 0, 0, .null, []) :: (6, .iload 4, 0, 0, .null, []) :: (8, .ifCond .eq 20, 28, 0, .null, []) :: (11, .aload_n 0, 0, 0, .null, []) :: (12, .aload_n 0, 0, 0, .null, []) :: (13, .getfield 26, 5, 5, .null, []) :: (16, .bipush 8, 0, 0, .int 8, []) :: (18, .iload 4, 0, 0, .null, []) :: (20, .imul, 0, 0, .null, []) :: (21, .iaload, 0, 0, .null, []) :: (22, .putfield 73, 5, 8, .null, []) :: (25, .goto 35, 60, 0, .null, []) :: B5_node_28
set_option maxRecDepth 20000 in
theorem vB5_node_106 : am_vl 5 false (some .int) cX5_node B5_node_106 = true := am_vt (tl := []) 2 0 (by decide +kernel) rfl rfl rfl
set_option maxRecDepth 20000 in
theorem vB5_node_79 : am_vl 5 false (some .int) cX5_node B5_node_79 = true := am_vt (tl := B5_node_106) 14 106 (by decide +kernel) rfl rfl vB5_node_106
set_option maxRecDepth 20000 in
theorem vB5_node_60 : am_vl 5 false (some .int) cX5_node B5_node_60 = true := am_vt (tl := B5_node_79) 12 79 (by decide +kernel) rfl rfl vB5_node_79
set_option maxRecDepth 20000 in
theorem vB5_node_44 : am_vl 5 false (some .int) cX5_node B5_node_44 = true := am_vt (tl := B5_node_60) 9 60 (by decide +kernel) rfl rfl vB5_node_60
set_option maxRecDepth 20000 in
theorem vB5_node_28 : am_vl 5 false (some .int) cX5_node B5_node_28 = true := am_vt (tl := B5_node_44) 8 44 (by decide +kernel) rfl rfl vB5_node_44
set_option maxRecDepth 20000 in
theorem vB5_node_0 : am_vl 5 false (some .int) cX5_node B5_node_0 = true := am_vt (tl := B5_node_28) 14 28 (by decide +kernel) rfl rfl vB5_node_28
def B5_grow_96 : List am_I := (96, .aload_n 0, 0, 0, .null, []) :: (97, .aload_n 2, 0, 0, .null, []) :: (98, .putfield 23, 5, 4, .null, []) :: (101, .aload_n 0, 0, 0, .null, []) :: (102, .aload 4, 0, 0, .null, []) :: (104, .putfield 29, 5, 6, .null, []) :: (107, .aload_n 0, 0, 0, .null, []) :: (108, .aload_n 3, 0, 0, .null, []) :: (109, .putfield 26, 5, 5, .null, []) :: (112, .return_, 0, 0, .null, []) :: []
def B5_grow_67 : List am_I := (67, .iload 5, 0, 0, .null, []) :: (69, .bipush 8, 0, 0, .int 8, []) :: (71, .aload_n 0, 0, 0, .null, []) :: (72, .getfield 33, 5, 7, .null, []) :: (75, .imul, 0, 0, .null, []) :: (76, .if_icmp .ge 20, 96, 0, .null, []) :: (79, .aload_n 3, 0, 0, .null, []) :: (80, .iload 5, 0, 0, .null, []) :: (82, .aload_n 0, 0, 0, .null, []) :: (83, .getfield 26, 5, 5, .null, []) :: (86, .iload 5, 0, 0, .null, []) :: (88, .iaload, 0, 0, .null, []) :: (89, .iastore, 0, 0, .null, []) :: (90, .iinc 5 1, 0, 0, .int 1, []) :: (93, .goto (-26), 67, 0, .null, []) :: B5_grow_96
def B5_grow_64 : List am_I := (64, .iconst 0, 0, 0, .int 0, []) :: (65, .istore 5, 0, 0, .null, []) :: B5_grow_67
def B5_grow_26 : List am_I := (26, .iload 5, 0, 0, .null, []) :: (28, .aload_n 0, 0, 0, .null, []) :: (29, .getfield 33, 5, 7, .null, []) :: (32, .if_icmp .ge 32, 64, 0, .null, []) :: (35, .aload_n 2, 0, 0, .null, []) :: (36, .iload 5, 0, 0, .null, []) :: (38, .aload_n 0, 0, 0, .null, []) :: (39, .getfield 23, 5, 4, .null, []) :: (42, .iload 5, 0, 0, .null, []) :: (44, .iaload, 0, 0, .null, []) :: (45, .iastore, 0, 0, .null, []) :: (46, .aload 4, 0, 0, .null, []) :: (48, .iload 5, 0, 0, .null, []) :: (50, .aload_n 0, 0, 0, .null, []) :: (51, .getfield 29, 5, 6, .null, []) :: (54, .iload 5, 0, 0, .null, []) :: (56, .laload, 0, 0, .null, []) :: (57, .lastore, 0, 0, .null, []) :: (58, .iinc 5 1, 0, 0, .int 1, []) :: (61, .goto (-35), 26, 0, .null, []) :: B5_grow_64
def B5_grow_0 : List am_I := (0, .iconst 2, 0, 0, .int 2, []) :: (1, .aload_n 0, 0, 0, .null, []) :: (2, .getfield 33, 5, 7, .null, []) :: (5, .imul, 0, 0, .null, []) :: (6, .istore_n 1, 0, 0, .null, []) :: (7, .iload_n 1, 0, 0, .null, []) :: (8, .newarray .int, 0, 0, .null, []) :: (10, .astore_n 2, 0, 0, .null, []) :: (11, .bipush 8, 0, 0, .int 8, []) :: (13, .iload_n 1, 0, 0, .null, []) :: (14, .imul, 0, 0, .null, []) :: (15, .newarray .int, 0, 0, .null, []) :: (17, .astore_n 3, 0, 0, .null, []) :: (18, .iload_n 1, 0, 0, .null, []) :: (19, .newarray .long, 0, 0, .null, []) :: (21, .astore 4, 0, 0, .null, []) :: (23, .iconst 0, 0, 0, .int 0, []) :: (24, .istore 5, 0, 0, .null, []) :: B5_grow_26
set_option maxRecDepth 20000 in
theorem vB5_grow_96 : am_vl 5 false none cX5_grow B5_grow_96 = true := am_vt (tl := []) 10 0 (by decide +kernel) rfl rfl rfl
set_option maxRecDepth 20000 in
theorem vB5_grow_67 : am_vl 5 false none cX5_grow B5_grow_67 = true := am_vt (tl := B5_grow_96) 15 96 (by decide +kernel) rfl rfl vB5_grow_96
set_option maxRecDepth 20000 in
theorem vB5_grow_64 : am_vl 5 false none cX5_grow B5_grow_64 = true := am_vt (tl := B5_grow_67) 2 67 (by decide +kernel) rfl rfl vB5_grow_67
set_option maxRecDepth 20000 in
theorem vB5_grow_26 : am_vl 5 false none cX5_grow B5_grow_26 = true := am_vt (tl := B5_grow_64) 20 64 (by decide +kernel) rfl rfl vB5_grow_64
set_option maxRecDepth 20000 in
theorem vB5_grow_0 : am_vl 5 false none cX5_grow B5_grow_0 = true := am_vt (tl := B5_grow_26) 18 26 (by decide +kernel) rfl rfl vB5_grow_26
def B5_free_0 : List am_I := (0, .aload_n 0, 0, 0, .null, []) :: (1, .getfield 26, 5, 5, .null, []) :: (4, .bipush 8, 0, 0, .int 8, []) :: (6, .iload_n 1, 0, 0, .null, []) :: (7, .imul, 0, 0, .null, []) :: (8, .aload_n 0, 0, 0, .null, []) :: (9, .getfield 73, 5, 8, .null, []) :: (12, .iastore, 0, 0, .null, []) :: (13, .aload_n 0, 0, 0, .null, []) :: (14, .iload_n 1, 0, 0, .null, []) :: (15, .putfield 73, 5, 8, .null, []) :: (18, .return_, 0, 0, .null, []) :: []
set_option maxRecDepth 20000 in
theorem vB5_free_0 : am_vl 5 false none cX5_free B5_free_0 = true := am_vt (tl := []) 12 0 (by decide +kernel) rfl rfl rfl
def B5_kindOf_0 : List am_I := (0, .aload_n 0, 0, 0, .null, []) :: (1, .getfield 7, 5, 0, .null, []) :: (4, .aload_n 0, 0, 0, .null, []) :: (5, .getfield 23, 5, 4, .null, []) :: (8, .iload_n 1, 0, 0, .null, []) :: (9, .iaload, 0, 0, .null, []) :: (10, .iaload, 0, 0, .null, []) :: (11, .ireturn, 0, 0, .null, []) :: []
set_option maxRecDepth 20000 in
theorem vB5_kindOf_0 : am_vl 5 false (some .int) cX5_kindOf B5_kindOf_0 = true := am_vt (tl := []) 8 0 (by decide +kernel) rfl rfl rfl
def B5_dropped_141 : List am_I := (141, .isub, 0, 0, .null, []) :: (142, .putfield 94, 5, 17, .null, []) :: (145, .aload_n 0, 0, 0, .null, []) :: (146, .iload_n 1, 0, 0, .null, []) :: (147, .invokevirtual 97, 117, 1, .ref 5, []) :: (150, .return_, 0, 0, .null, []) :: []
def B5_dropped_140 : List am_I := (140, .iconst 0, 0, 0, .int 0, []) :: B5_dropped_141
def B5_dropped_122 : List am_I := (122, .isub, 0, 0, .null, []) :: (123, .putfield 91, 5, 16, .null, []) :: (126, .aload_n 0, 0, 0, .null, []) :: (127, .dup, 0, 0, .null, []) :: (128, .getfield 94, 5, 17, .null, []) :: (131, .iload_n 2, 0, 0, .null, []) :: (132, .iconst 5, 0, 0, .int 5, []) :: (133, .if_icmp .ne 7, 140, 0, .null, []) :: (136, .iconst 1, 0, 0, .int 1, []) :: (137, .goto 4, 141, 0, .null, []) :: B5_dropped_140
def B5_dropped_121 : List am_I := (121, .iconst 0, 0, 0, .int 0, []) :: B5_dropped_122
def B5_dropped_107 : List am_I := (107, .aload_n 0, 0, 0, .null, []) :: (108, .dup, 0, 0, .null, []) :: (109, .getfield 91, 5, 16, .null, []) :: (112, .iload_n 2, 0, 0, .null, []) :: (113, .iconst 4, 0, 0, .int 4, []) :: (114, .if_icmp .ne 7, 121, 0, .null, []) :: (117, .iconst 1, 0, 0, .int 1, []) :: (118, .goto 4, 122, 0, .null, []) :: B5_dropped_121
def B5_dropped_101 : List am_I := (101, .iinc 3 1, 0, 0, .int 1, []) :: (104, .goto (-38), 66, 0, .null, []) :: B5_dropped_107
def B5_dropped_66 : List am_I := (66, .iload_n 3, 0, 0, .null, []) :: (67, .bipush 8, 0, 0, .int 8, []) :: (69, .if_icmp .ge 38, 107, 0, .null, []) :: (72, .aload_n 0, 0, 0, .null, []) :: (73, .getfield 26, 5, 5, .null, []) :: (76, .bipush 8, 0, 0, .int 8, []) :: (78, .iload_n 1, 0, 0, .null, []) :: (79, .imul, 0, 0, .null, []) :: (80, .iload_n 3, 0, 0, .null, []) :: (81, .iadd, 0, 0, .null, []) :: (82, .iaload, 0, 0, .null, []) :: (83, .ifCond .eq 18, 101, 0, .null, []) :: (86, .aload_n 0, 0, 0, .null, []) :: (87, .aload_n 0, 0, 0, .null, []) :: (88, .getfield 26, 5, 5, .null, []) :: (91, .bipush 8, 0, 0, .int 8, []) :: (93, .iload_n 1, 0, 0, .null, []) :: (94, .imul, 0, 0, .null, []) :: (95, .iload_n 3, 0, 0, .null, []) :: (96, .iadd, 0, 0, .null, []) :: (97, .iaload, 0, 0, .null, []) :: (98, .invokevirtual 88, 119, 1, .ref 5, []) :: B5_dropped_101
def B5_dropped_64 : List am_I := (64, .iconst 0, 0, 0, .int 0, []) :: (65, .istore_n 3, 0, 0, .null, []) :: B5_dropped_66
def B5_dropped_54 : List am_I := (54, .aload_n 0, 0, 0, .null, []) :: (55, .dup, 0, 0, .null, []) :: (56, .getfield 85, 5, 19, .null, []) :: (59, .iconst 1, 0, 0, .int 1, []) :: (60, .iadd, 0, 0, .null, []) :: (61, .putfield 85, 5, 19, .null, []) :: B5_dropped_64
def B5_dropped_43 : List am_I := (43, .lastore, 0, 0, .null, []) :: (44, .aload_n 0, 0, 0, .null, []) :: (45, .dup, 0, 0, .null, []) :: (46, .getfield 82, 5, 15, .null, []) :: (49, .iconst 1, 0, 0, .int 1, []) :: (50, .iadd, 0, 0, .null, []) :: (51, .putfield 82, 5, 15, .null, []) :: B5_dropped_54
def B5_dropped_0 : List am_I := (0, .aload_n 0, 0, 0, .null, []) :: (1, .iload_n 1, 0, 0, .null, []) :: (2, .invokevirtual 79, 118, 1, .ref 5, []) :: (5, .istore_n 2, 0, 0, .null, []) :: (6, .iload_n 2, 0, 0, .null, []) :: (7, .iconst 2, 0, 0, .int 2, []) :: (8, .if_icmp .ne 56, 64, 0, .null, []) :: (11, .aload_n 0, 0, 0, .null, []) :: (12, .getfield 82, 5, 15, .null, []) :: (15, .sipush 400, 0, 0, .int 400, []) :: (18, .if_icmp .ge 36, 54, 0, .null, []) :: (21, .aload_n 0, 0, 0, .null, []) :: (22, .getfield 48, 5, 14, .null, []) :: (25, .aload_n 0, 0, 0, .null, []) :: (26, .getfield 82, 5, 15, .null, []) :: (29, .aload_n 0, 0, 0, .null, []) :: (30, .getfield 29, 5, 6, .null, []) :: (33, .aload_n 0, 0, 0, .null, []) :: (34, .getfield 26, 5, 5, .null, []) :: (37, .bipush 8, 0, 0, .int 8, []) :: (39, .iload_n 1, 0, 0, .null, []) :: (40, .imul, 0, 0, .null, []) :: (41, .iaload, 0, 0, .null, []) :: (42, .laload, 0, 0, .null, []) :: B5_dropped_43
set_option maxRecDepth 20000 in
theorem vB5_dropped_141 : am_vl 5 false none cX5_dropped B5_dropped_141 = true := am_vt (tl := []) 6 0 (by decide +kernel) rfl rfl rfl
set_option maxRecDepth 20000 in
theorem vB5_dropped_140 : am_vl 5 false none cX5_dropped B5_dropped_140 = true := am_vt (tl := B5_dropped_141) 1 141 (by decide +kernel) rfl rfl vB5_dropped_141
set_option maxRecDepth 20000 in
theorem vB5_dropped_122 : am_vl 5 false none cX5_dropped B5_dropped_122 = true := am_vt (tl := B5_dropped_140) 10 140 (by decide +kernel) rfl rfl vB5_dropped_140
set_option maxRecDepth 20000 in
theorem vB5_dropped_121 : am_vl 5 false none cX5_dropped B5_dropped_121 = true := am_vt (tl := B5_dropped_122) 1 122 (by decide +kernel) rfl rfl vB5_dropped_122
set_option maxRecDepth 20000 in
theorem vB5_dropped_107 : am_vl 5 false none cX5_dropped B5_dropped_107 = true := am_vt (tl := B5_dropped_121) 8 121 (by decide +kernel) rfl rfl vB5_dropped_121
set_option maxRecDepth 20000 in
theorem vB5_dropped_101 : am_vl 5 false none cX5_dropped B5_dropped_101 = true := am_vt (tl := B5_dropped_107) 2 107 (by decide +kernel) rfl rfl vB5_dropped_107
set_option maxRecDepth 20000 in
theorem vB5_dropped_66 : am_vl 5 false none cX5_dropped B5_dropped_66 = true := am_vt (tl := B5_dropped_101) 22 101 (by decide +kernel) rfl rfl vB5_dropped_101
set_option maxRecDepth 20000 in
theorem vB5_dropped_64 : am_vl 5 false none cX5_dropped B5_dropped_64 = true := am_vt (tl := B5_dropped_66) 2 66 (by decide +kernel) rfl rfl vB5_dropped_66
set_option maxRecDepth 20000 in
theorem vB5_dropped_54 : am_vl 5 false none cX5_dropped B5_dropped_54 = true := am_vt (tl := B5_dropped_64) 6 64 (by decide +kernel) rfl rfl vB5_dropped_64
set_option maxRecDepth 20000 in
theorem vB5_dropped_43 : am_vl 5 false none cX5_dropped B5_dropped_43 = true := am_vt (tl := B5_dropped_54) 7 54 (by decide +kernel) rfl rfl vB5_dropped_54
set_option maxRecDepth 20000 in
theorem vB5_dropped_0 : am_vl 5 false none cX5_dropped B5_dropped_0 = true := am_vt (tl := B5_dropped_43) 24 43 (by decide +kernel) rfl rfl vB5_dropped_43
def B5_mine_0 : List am_I := (0, .aload_n 0, 0, 0, .null, []) :: (1, .getfield 100, 5, 12, .null, []) :: (4, .aload_n 0, 0, 0, .null, []) :: (5, .getfield 42, 5, 11, .null, []) :: (8, .aload_n 0, 0, 0, .null, []) :: (9, .getfield 45, 5, 13, .null, []) :: (12, .iaload, 0, 0, .null, []) :: (13, .isub, 0, 0, .null, []) :: (14, .ireturn, 0, 0, .null, []) :: []
set_option maxRecDepth 20000 in
theorem vB5_mine_0 : am_vl 5 false (some .int) cX5_mine B5_mine_0 = true := am_vt (tl := []) 9 0 (by decide +kernel) rfl rfl rfl
def B5_top_0 : List am_I := (0, .aload_n 0, 0, 0, .null, []) :: (1, .getfield 36, 5, 9, .null, []) :: (4, .aload_n 0, 0, 0, .null, []) :: (5, .getfield 100, 5, 12, .null, []) :: (8, .iconst 1, 0, 0, .int 1, []) :: (9, .isub, 0, 0, .null, []) :: (10, .iload_n 1, 0, 0, .null, []) :: (11, .isub, 0, 0, .null, []) :: (12, .iaload, 0, 0, .null, []) :: (13, .ireturn, 0, 0, .null, []) :: []
set_option maxRecDepth 20000 in
theorem vB5_top_0 : am_vl 5 false (some .int) cX5_top B5_top_0 = true := am_vt (tl := []) 10 0 (by decide +kernel) rfl rfl rfl
def B5_slot_0 : List am_I := (0, .bipush 8, 0, 0, .int 8, []) :: (2, .aload_n 0, 0, 0, .null, []) :: (3, .getfield 45, 5, 13, .null, []) :: (6, .iconst 1, 0, 0, .int 1, []) :: (7, .isub, 0, 0, .null, []) :: (8, .imul, 0, 0, .null, []) :: (9, .iload_n 1, 0, 0, .null, []) :: (10, .iadd, 0, 0, .null, []) :: (11, .ireturn, 0, 0, .null, []) :: []
set_option maxRecDepth 20000 in
theorem vB5_slot_0 : am_vl 5 false (some .int) cX5_slot B5_slot_0 = true := am_vt (tl := []) 9 0 (by decide +kernel) rfl rfl rfl
def B5_find_199 : List am_I := (199, .iload_n 3, 0, 0, .null, []) :: (200, .ireturn, 0, 0, .null, []) :: []
def B5_find_167 : List am_I := (167, .aload_n 0, 0, 0, .null, []) :: (168, .iconst 0, 0, 0, .int 0, []) :: (169, .putfield 107, 5, 20, .null, []) :: (172, .aload_n 0, 0, 0, .null, []) :: (173, .iload_n 3, 0, 0, .null, []) :: (174, .putfield 111, 5, 21, .null, []) :: (177, .aload_n 0, 0, 0, .null, []) :: (178, .iload 7, 0, 0, .null, []) :: (180, .putfield 114, 5, 22, .null, []) :: (183, .aload_n 0, 0, 0, .null, []) :: (184, .getfield 26, 5, 5, .null, []) :: (187, .bipush 8, 0, 0, .int 8, []) :: (189, .iload_n 3, 0, 0, .null, []) :: (190, .imul, 0, 0, .null, []) :: (191, .iload 7, 0, 0, .null, []) :: (193, .iadd, 0, 0, .null, []) :: (194, .iaload, 0, 0, .null, []) :: (195, .istore_n 3, 0, 0, .null, []) :: (196, .goto (-146), 50, 0, .null, []) :: B5_find_199
def B5_find_159 : List am_I := (159, .iload 7, 0, 0, .null, []) :: (161, .iconst (-1), 0, 0, .int (-1), []) :: (162, .if_icmp .ne 5, 167, 0, .null, []) :: (165, .iconst 0, 0, 0, .int 0, []) :: (166, .ireturn, 0, 0, .null, []) :: B5_find_167
def B5_find_139 : List am_I := (139, .iload 5, 0, 0, .null, []) :: (141, .bipush 8, 0, 0, .int 8, []) :: (143, .if_icmp .lt 16, 159, 0, .null, []) :: (146, .iload 6, 0, 0, .null, []) :: (148, .iconst 5, 0, 0, .int 5, []) :: (149, .if_icmp .ne 10, 159, 0, .null, []) :: (152, .iload 5, 0, 0, .null, []) :: (154, .bipush 8, 0, 0, .int 8, []) :: (156, .isub, 0, 0, .null, []) :: (157, .istore 7, 0, 0, .null, []) :: B5_find_159
def B5_find_136 : List am_I := (136, .iconst 0, 0, 0, .int 0, []) :: (137, .istore 7, 0, 0, .null, []) :: B5_find_139
def B5_find_123 : List am_I := (123, .iload 5, 0, 0, .null, []) :: (125, .bipush 6, 0, 0, .int 6, []) :: (127, .if_icmp .ne 12, 139, 0, .null, []) :: (130, .iload 6, 0, 0, .null, []) :: (132, .iconst 3, 0, 0, .int 3, []) :: (133, .if_icmp .ne 6, 139, 0, .null, []) :: B5_find_136
def B5_find_111 : List am_I := (111, .iload 5, 0, 0, .null, []) :: (113, .iconst 5, 0, 0, .int 5, []) :: (114, .if_icmp .ne 9, 123, 0, .null, []) :: (117, .iload 6, 0, 0, .null, []) :: (119, .iconst 4, 0, 0, .int 4, []) :: (120, .if_icmp .eq 16, 136, 0, .null, []) :: B5_find_123
def B5_find_105 : List am_I := (105, .iload 5, 0, 0, .null, []) :: (107, .iconst 1, 0, 0, .int 1, []) :: (108, .isub, 0, 0, .null, []) :: (109, .istore 7, 0, 0, .null, []) :: B5_find_111
def B5_find_95 : List am_I := (95, .iconst 1, 0, 0, .int 1, []) :: (96, .if_icmp .eq 9, 105, 0, .null, []) :: (99, .iload 6, 0, 0, .null, []) :: (101, .iconst 2, 0, 0, .int 2, []) :: (102, .if_icmp .ne 9, 111, 0, .null, []) :: B5_find_105
def B5_find_50 : List am_I := (50, .iload 4, 0, 0, .null, []) :: (52, .ifCond .le 147, 199, 0, .null, []) :: (55, .iload_n 3, 0, 0, .null, []) :: (56, .ifCond .eq 143, 199, 0, .null, []) :: (59, .iload 4, 0, 0, .null, []) :: (61, .bipush 16, 0, 0, .int 16, []) :: (63, .irem, 0, 0, .null, []) :: (64, .istore 5, 0, 0, .null, []) :: (66, .aload_n 0, 0, 0, .null, []) :: (67, .iload_n 3, 0, 0, .null, []) :: (68, .invokevirtual 79, 118, 1, .ref 5, []) :: (71, .istore 6, 0, 0, .null, []) :: (73, .iconst (-1), 0, 0, .int (-1), []) :: (74, .istore 7, 0, 0, .null, []) :: (76, .iload 4, 0, 0, .null, []) :: (78, .bipush 16, 0, 0, .int 16, []) :: (80, .idiv, 0, 0, .null, []) :: (81, .istore 4, 0, 0, .null, []) :: (83, .iload 5, 0, 0, .null, []) :: (85, .iconst 1, 0, 0, .int 1, []) :: (86, .iconst 3, 0, 0, .int 3, []) :: (87, .invokestatic 51, 105, 3, .int 0, []) :: (90, .ifCond .eq 21, 111, 0, .null, []) :: (93, .iload 6, 0, 0, .null, []) :: B5_find_95
def B5_find_22 : List am_I := (22, .aload_n 0, 0, 0, .null, []) :: (23, .getfield 39, 5, 10, .null, []) :: (26, .aload_n 0, 0, 0, .null, []) :: (27, .iload_n 1, 0, 0, .null, []) :: (28, .invokevirtual 104, 122, 1, .ref 5, []) :: (31, .iaload, 0, 0, .null, []) :: (32, .istore_n 3, 0, 0, .null, []) :: (33, .iload_n 2, 0, 0, .null, []) :: (34, .istore 4, 0, 0, .null, []) :: (36, .aload_n 0, 0, 0, .null, []) :: (37, .iconst 1, 0, 0, .int 1, []) :: (38, .putfield 107, 5, 20, .null, []) :: (41, .aload_n 0, 0, 0, .null, []) :: (42, .aload_n 0, 0, 0, .null, []) :: (43, .iload_n 1, 0, 0, .null, []) :: (44, .invokevirtual 104, 122, 1, .ref 5, []) :: (47, .putfield 111, 5, 21, .null, []) :: B5_find_50
def B5_find_20 : List am_I := (20, .iconst 0, 0, 0, .int 0, []) :: (21, .ireturn, 0, 0, .null, []) :: B5_find_22
def B5_find_0 : List am_I := (0, .iload_n 1, 0, 0, .null, []) :: (1, .iconst 0, 0, 0, .int 0, []) :: (2, .bipush 7, 0, 0, .int 7, []) :: (4, .invokestatic 51, 105, 3, .int 0, []) :: (7, .ifCond .eq 13, 20, 0, .null, []) :: (10, .iload_n 2, 0, 0, .null, []) :: (11, .iconst 0, 0, 0, .int 0, []) :: (12, .ldc 103, 0, 0, .int 16777215, []) :: (14, .invokestatic 51, 105, 3, .int 0, []) :: (17, .ifCond .ne 5, 22, 0, .null, []) :: B5_find_20
set_option maxRecDepth 20000 in
theorem vB5_find_199 : am_vl 5 false (some .int) cX5_find B5_find_199 = true := am_vt (tl := []) 2 0 (by decide +kernel) rfl rfl rfl
set_option maxRecDepth 20000 in
theorem vB5_find_167 : am_vl 5 false (some .int) cX5_find B5_find_167 = true := am_vt (tl := B5_find_199) 19 199 (by decide +kernel) rfl rfl vB5_find_199
set_option maxRecDepth 20000 in
theorem vB5_find_159 : am_vl 5 false (some .int) cX5_find B5_find_159 = true := am_vt (tl := B5_find_167) 5 167 (by decide +kernel) rfl rfl vB5_find_167
set_option maxRecDepth 20000 in
theorem vB5_find_139 : am_vl 5 false (some .int) cX5_find B5_find_139 = true := am_vt (tl := B5_find_159) 10 159 (by decide +kernel) rfl rfl vB5_find_159
set_option maxRecDepth 20000 in
theorem vB5_find_136 : am_vl 5 false (some .int) cX5_find B5_find_136 = true := am_vt (tl := B5_find_139) 2 139 (by decide +kernel) rfl rfl vB5_find_139
set_option maxRecDepth 20000 in
theorem vB5_find_123 : am_vl 5 false (some .int) cX5_find B5_find_123 = true := am_vt (tl := B5_find_136) 6 136 (by decide +kernel) rfl rfl vB5_find_136
set_option maxRecDepth 20000 in
theorem vB5_find_111 : am_vl 5 false (some .int) cX5_find B5_find_111 = true := am_vt (tl := B5_find_123) 6 123 (by decide +kernel) rfl rfl vB5_find_123
set_option maxRecDepth 20000 in
theorem vB5_find_105 : am_vl 5 false (some .int) cX5_find B5_find_105 = true := am_vt (tl := B5_find_111) 4 111 (by decide +kernel) rfl rfl vB5_find_111
set_option maxRecDepth 20000 in
theorem vB5_find_95 : am_vl 5 false (some .int) cX5_find B5_find_95 = true := am_vt (tl := B5_find_105) 5 105 (by decide +kernel) rfl rfl vB5_find_105
set_option maxRecDepth 20000 in
theorem vB5_find_50 : am_vl 5 false (some .int) cX5_find B5_find_50 = true := am_vt (tl := B5_find_95) 24 95 (by decide +kernel) rfl rfl vB5_find_95
set_option maxRecDepth 20000 in
theorem vB5_find_22 : am_vl 5 false (some .int) cX5_find B5_find_22 = true := am_vt (tl := B5_find_50) 17 50 (by decide +kernel) rfl rfl vB5_find_50
set_option maxRecDepth 20000 in
theorem vB5_find_20 : am_vl 5 false (some .int) cX5_find B5_find_20 = true := am_vt (tl := B5_find_22) 2 22 (by decide +kernel) rfl rfl vB5_find_22
set_option maxRecDepth 20000 in
theorem vB5_find_0 : am_vl 5 false (some .int) cX5_find B5_find_0 = true := am_vt (tl := B5_find_20) 10 20 (by decide +kernel) rfl rfl vB5_find_20
def B5_put_38 : List am_I := (38, .return_, 0, 0, .null, []) :: []
def B5_put_20 : List am_I := (20, .aload_n 0, 0, 0, .null, []) :: (21, .getfield 26, 5, 5, .null, []) :: (24, .bipush 8, 0, 0, .int 8, []) :: (26, .aload_n 0, 0, 0, .null, []) :: (27, .getfield 111, 5, 21, .null, []) :: (30, .imul, 0, 0, .null, []) :: (31, .aload_n 0, 0, 0, .null, []) :: (32, .getfield 114, 5, 22, .null, []) :: (35, .iadd, 0, 0, .null, []) :: (36, .iload_n 1, 0, 0, .null, []) :: (37, .iastore, 0, 0, .null, []) :: B5_put_38
def B5_put_0 : List am_I := (0, .aload_n 0, 0, 0, .null, []) :: (1, .getfield 107, 5, 20, .null, []) :: (4, .ifCond .eq 16, 20, 0, .null, []) :: (7, .aload_n 0, 0, 0, .null, []) :: (8, .getfield 39, 5, 10, .null, []) :: (11, .aload_n 0, 0, 0, .null, []) :: (12, .getfield 111, 5, 21, .null, []) :: (15, .iload_n 1, 0, 0, .null, []) :: (16, .iastore, 0, 0, .null, []) :: (17, .goto 21, 38, 0, .null, []) :: B5_put_20
set_option maxRecDepth 20000 in
theorem vB5_put_38 : am_vl 5 false none cX5_put B5_put_38 = true := am_vt (tl := []) 1 0 (by decide +kernel) rfl rfl rfl
set_option maxRecDepth 20000 in
theorem vB5_put_20 : am_vl 5 false none cX5_put B5_put_20 = true := am_vt (tl := B5_put_38) 11 38 (by decide +kernel) rfl rfl vB5_put_38
set_option maxRecDepth 20000 in
theorem vB5_put_0 : am_vl 5 false none cX5_put B5_put_0 = true := am_vt (tl := B5_put_20) 10 20 (by decide +kernel) rfl rfl vB5_put_20
def B5_comes_0 : List am_I := (0, .aload_n 0, 0, 0, .null, []) :: (1, .getfield 36, 5, 9, .null, []) :: (4, .aload_n 0, 0, 0, .null, []) :: (5, .getfield 100, 5, 12, .null, []) :: (8, .iload_n 1, 0, 0, .null, []) :: (9, .iastore, 0, 0, .null, []) :: (10, .aload_n 0, 0, 0, .null, []) :: (11, .dup, 0, 0, .null, []) :: (12, .getfield 100, 5, 12, .null, []) :: (15, .iconst 1, 0, 0, .int 1, []) :: (16, .iadd, 0, 0, .null, []) :: (17, .putfield 100, 5, 12, .null, []) :: (20, .iconst 1, 0, 0, .int 1, []) :: (21, .ireturn, 0, 0, .null, []) :: []
set_option maxRecDepth 20000 in
theorem vB5_comes_0 : am_vl 5 false (some .int) cX5_comes B5_comes_0 = true := am_vt (tl := []) 14 0 (by decide +kernel) rfl rfl rfl
def B5_number_24 : List am_I := (24, .ireturn, 0, 0, .null, []) :: []
def B5_number_14 : List am_I := (14, .aload_n 0, 0, 0, .null, []) :: (15, .aload_n 0, 0, 0, .null, []) :: (16, .iconst 0, 0, 0, .int 0, []) :: (17, .lload_n 1, 0, 0, .null, []) :: (18, .invokevirtual 117, 115, 2, .ref 5, []) :: (21, .invokevirtual 121, 125, 1, .ref 5, []) :: B5_number_24
def B5_number_0 : List am_I := (0, .aload_n 0, 0, 0, .null, []) :: (1, .getfield 100, 5, 12, .null, []) :: (4, .bipush 24, 0, 0, .int 24, []) :: (6, .if_icmp .ne 8, 14, 0, .null, []) :: (9, .bipush (-2), 0, 0, .int (-2), []) :: (11, .goto 13, 24, 0, .null, []) :: B5_number_14
set_option maxRecDepth 20000 in
theorem vB5_number_24 : am_vl 5 false (some .int) cX5_number B5_number_24 = true := am_vt (tl := []) 1 0 (by decide +kernel) rfl rfl rfl
set_option maxRecDepth 20000 in
theorem vB5_number_14 : am_vl 5 false (some .int) cX5_number B5_number_14 = true := am_vt (tl := B5_number_24) 6 24 (by decide +kernel) rfl rfl vB5_number_24
set_option maxRecDepth 20000 in
theorem vB5_number_0 : am_vl 5 false (some .int) cX5_number B5_number_0 = true := am_vt (tl := B5_number_14) 6 14 (by decide +kernel) rfl rfl vB5_number_14
def B5_parts_27 : List am_I := (27, .iload_n 2, 0, 0, .null, []) :: (28, .ireturn, 0, 0, .null, []) :: []
def B5_parts_2 : List am_I := (2, .iload_n 2, 0, 0, .null, []) :: (3, .iconst 3, 0, 0, .int 3, []) :: (4, .if_icmp .ge 23, 27, 0, .null, []) :: (7, .aload_n 0, 0, 0, .null, []) :: (8, .getfield 16, 5, 2, .null, []) :: (11, .iconst 3, 0, 0, .int 3, []) :: (12, .iload_n 1, 0, 0, .null, []) :: (13, .imul, 0, 0, .null, []) :: (14, .iload_n 2, 0, 0, .null, []) :: (15, .iadd, 0, 0, .null, []) :: (16, .iaload, 0, 0, .null, []) :: (17, .iconst (-1), 0, 0, .int (-1), []) :: (18, .if_icmp .eq 9, 27, 0, .null, []) :: (21, .iinc 2 1, 0, 0, .int 1, []) :: (24, .goto (-22), 2, 0, .null, []) :: B5_parts_27
def B5_parts_0 : List am_I := (0, .iconst 0, 0, 0, .int 0, []) :: (1, .istore_n 2, 0, 0, .null, []) :: B5_parts_2
set_option maxRecDepth 20000 in
theorem vB5_parts_27 : am_vl 5 false (some .int) cX5_parts B5_parts_27 = true := am_vt (tl := []) 2 0 (by decide +kernel) rfl rfl rfl
set_option maxRecDepth 20000 in
theorem vB5_parts_2 : am_vl 5 false (some .int) cX5_parts B5_parts_2 = true := am_vt (tl := B5_parts_27) 15 27 (by decide +kernel) rfl rfl vB5_parts_27
set_option maxRecDepth 20000 in
theorem vB5_parts_0 : am_vl 5 false (some .int) cX5_parts B5_parts_0 = true := am_vt (tl := B5_parts_2) 2 2 (by decide +kernel) rfl rfl vB5_parts_2
def B5_wrap_52 : List am_I := (52, .aload_n 0, 0, 0, .null, []) :: (53, .dup, 0, 0, .null, []) :: (54, .getfield 100, 5, 12, .null, []) :: (57, .iload 4, 0, 0, .null, []) :: (59, .isub, 0, 0, .null, []) :: (60, .putfield 100, 5, 12, .null, []) :: (63, .aload_n 0, 0, 0, .null, []) :: (64, .iload 5, 0, 0, .null, []) :: (66, .invokevirtual 121, 125, 1, .ref 5, []) :: (69, .ireturn, 0, 0, .null, []) :: []
def B5_wrap_11 : List am_I := (11, .iload 6, 0, 0, .null, []) :: (13, .iload 4, 0, 0, .null, []) :: (15, .if_icmp .ge 37, 52, 0, .null, []) :: (18, .aload_n 0, 0, 0, .null, []) :: (19, .getfield 26, 5, 5, .null, []) :: (22, .bipush 8, 0, 0, .int 8, []) :: (24, .iload 5, 0, 0, .null, []) :: (26, .imul, 0, 0, .null, []) :: (27, .iload 6, 0, 0, .null, []) :: (29, .iadd, 0, 0, .null, []) :: (30, .aload_n 0, 0, 0, .null, []) :: (31, .getfield 36, 5, 9, .null, []) :: (34, .aload_n 0, 0, 0, .null, []) :: (35, .getfield 100, 5, 12, .null, []) :: (38, .iload 4, 0, 0, .null, []) :: (40, .isub, 0, 0, .null, []) :: (41, .iload 6, 0, 0, .null, []) :: (43, .iadd, 0, 0, .null, []) :: (44, .iaload, 0, 0, .null, []) :: (45, .iastore, 0, 0, .null, []) :: (46, .iinc 6 1, 0, 0, .int 1, []) :: (49, .goto (-38), 11, 0, .null, []) :: B5_wrap_52
def B5_wrap_0 : List am_I := (0, .aload_n 0, 0, 0, .null, []) :: (1, .iload_n 1, 0, 0, .null, []) :: (2, .lload_n 2, 0, 0, .null, []) :: (3, .invokevirtual 117, 115, 2, .ref 5, []) :: (6, .istore 5, 0, 0, .null, []) :: (8, .iconst 0, 0, 0, .int 0, []) :: (9, .istore 6, 0, 0, .null, []) :: B5_wrap_11
set_option maxRecDepth 20000 in
theorem vB5_wrap_52 : am_vl 5 false (some .int) cX5_wrap B5_wrap_52 = true := am_vt (tl := []) 10 0 (by decide +kernel) rfl rfl rfl
set_option maxRecDepth 20000 in
theorem vB5_wrap_11 : am_vl 5 false (some .int) cX5_wrap B5_wrap_11 = true := am_vt (tl := B5_wrap_52) 22 52 (by decide +kernel) rfl rfl vB5_wrap_52
set_option maxRecDepth 20000 in
theorem vB5_wrap_0 : am_vl 5 false (some .int) cX5_wrap B5_wrap_0 = true := am_vt (tl := B5_wrap_11) 7 11 (by decide +kernel) rfl rfl vB5_wrap_11
def B5_make_306 : List am_I := (306, .iconst (-1), 0, 0, .int (-1), []) :: (307, .ireturn, 0, 0, .null, []) :: []
def B5_make_288 : List am_I := (288, .aload_n 0, 0, 0, .null, []) :: (289, .dup, 0, 0, .null, []) :: (290, .getfield 91, 5, 16, .null, []) :: (293, .iconst 1, 0, 0, .int 1, []) :: (294, .iadd, 0, 0, .null, []) :: (295, .putfield 91, 5, 16, .null, []) :: (298, .aload_n 0, 0, 0, .null, []) :: (299, .iload_n 1, 0, 0, .null, []) :: (300, .lconst 0, 0, 0, .long 0, []) :: (301, .iconst 1, 0, 0, .int 1, []) :: (302, .invokevirtual 137, 128, 3, .ref 5, []) :: (305, .ireturn, 0, 0, .null, []) :: B5_make_306
def B5_make_276 : List am_I := (276, .aload_n 0, 0, 0, .null, []) :: (277, .getfield 91, 5, 16, .null, []) :: (280, .bipush 60, 0, 0, .int 60, []) :: (282, .if_icmp .ne 6, 288, 0, .null, []) :: (285, .bipush (-2), 0, 0, .int (-2), []) :: (287, .ireturn, 0, 0, .null, []) :: B5_make_288
def B5_make_274 : List am_I := (274, .iconst (-1), 0, 0, .int (-1), []) :: (275, .ireturn, 0, 0, .null, []) :: B5_make_276
def B5_make_271 : List am_I := (271, .if_icmp .eq 5, 276, 0, .null, []) :: B5_make_274
def B5_make_233 : List am_I := (233, .aload_n 0, 0, 0, .null, []) :: (234, .getfield 16, 5, 2, .null, []) :: (237, .iconst 3, 0, 0, .int 3, []) :: (238, .iload_n 1, 0, 0, .null, []) :: (239, .imul, 0, 0, .null, []) :: (240, .iaload, 0, 0, .null, []) :: (241, .iconst (-1), 0, 0, .int (-1), []) :: (242, .if_icmp .eq 32, 274, 0, .null, []) :: (245, .aload_n 0, 0, 0, .null, []) :: (246, .invokevirtual 127, 120, 0, .ref 5, []) :: (249, .iconst 1, 0, 0, .int 1, []) :: (250, .if_icmp .lt 24, 274, 0, .null, []) :: (253, .aload_n 0, 0, 0, .null, []) :: (254, .getfield 23, 5, 4, .null, []) :: (257, .aload_n 0, 0, 0, .null, []) :: (258, .iconst 0, 0, 0, .int 0, []) :: (259, .invokevirtual 131, 121, 1, .ref 5, []) :: (262, .iaload, 0, 0, .null, []) :: (263, .aload_n 0, 0, 0, .null, []) :: (264, .getfield 16, 5, 2, .null, []) :: (267, .iconst 3, 0, 0, .int 3, []) :: (268, .iload_n 1, 0, 0, .null, []) :: (269, .imul, 0, 0, .null, []) :: (270, .iaload, 0, 0, .null, []) :: B5_make_271
def B5_make_229 : List am_I := (229, .invokevirtual 137, 128, 3, .ref 5, []) :: (232, .ireturn, 0, 0, .null, []) :: B5_make_233
def B5_make_228 : List am_I := (228, .iconst 1, 0, 0, .int 1, []) :: B5_make_229
def B5_make_214 : List am_I := (214, .aload_n 0, 0, 0, .null, []) :: (215, .iload_n 1, 0, 0, .null, []) :: (216, .iload_n 2, 0, 0, .null, []) :: (217, .i2l, 0, 0, .null, []) :: (218, .iload 4, 0, 0, .null, []) :: (220, .iconst (-1), 0, 0, .int (-1), []) :: (221, .if_icmp .ne 7, 228, 0, .null, []) :: (224, .iconst 0, 0, 0, .int 0, []) :: (225, .goto 4, 229, 0, .null, []) :: B5_make_228
def B5_make_196 : List am_I := (196, .iload 4, 0, 0, .null, []) :: (198, .iconst (-1), 0, 0, .int (-1), []) :: (199, .if_icmp .ne 15, 214, 0, .null, []) :: (202, .aload_n 0, 0, 0, .null, []) :: (203, .getfield 100, 5, 12, .null, []) :: (206, .bipush 24, 0, 0, .int 24, []) :: (208, .if_icmp .ne 6, 214, 0, .null, []) :: (211, .bipush (-2), 0, 0, .int (-2), []) :: (213, .ireturn, 0, 0, .null, []) :: B5_make_214
def B5_make_194 : List am_I := (194, .iconst (-1), 0, 0, .int (-1), []) :: (195, .ireturn, 0, 0, .null, []) :: B5_make_196
def B5_make_153 : List am_I := (153, .aload_n 0, 0, 0, .null, []) :: (154, .getfield 16, 5, 2, .null, []) :: (157, .iconst 3, 0, 0, .int 3, []) :: (158, .iload_n 1, 0, 0, .null, []) :: (159, .imul, 0, 0, .null, []) :: (160, .iload_n 2, 0, 0, .null, []) :: (161, .iadd, 0, 0, .null, []) :: (162, .iaload, 0, 0, .null, []) :: (163, .istore 4, 0, 0, .null, []) :: (165, .iload 4, 0, 0, .null, []) :: (167, .iconst (-1), 0, 0, .int (-1), []) :: (168, .if_icmp .eq 28, 196, 0, .null, []) :: (171, .aload_n 0, 0, 0, .null, []) :: (172, .invokevirtual 127, 120, 0, .ref 5, []) :: (175, .iconst 1, 0, 0, .int 1, []) :: (176, .if_icmp .lt 18, 194, 0, .null, []) :: (179, .aload_n 0, 0, 0, .null, []) :: (180, .getfield 23, 5, 4, .null, []) :: (183, .aload_n 0, 0, 0, .null, []) :: (184, .iconst 0, 0, 0, .int 0, []) :: (185, .invokevirtual 131, 121, 1, .ref 5, []) :: (188, .iaload, 0, 0, .null, []) :: (189, .iload 4, 0, 0, .null, []) :: (191, .if_icmp .eq 5, 196, 0, .null, []) :: B5_make_194
def B5_make_142 : List am_I := (142, .iload_n 2, 0, 0, .null, []) :: (143, .iconst 0, 0, 0, .int 0, []) :: (144, .iconst 2, 0, 0, .int 2, []) :: (145, .invokestatic 51, 105, 3, .int 0, []) :: (148, .ifCond .ne 5, 153, 0, .null, []) :: (151, .iconst (-1), 0, 0, .int (-1), []) :: (152, .ireturn, 0, 0, .null, []) :: B5_make_153
def B5_make_130 : List am_I := (130, .iadd, 0, 0, .null, []) :: (131, .putfield 134, 5, 18, .null, []) :: (134, .aload_n 0, 0, 0, .null, []) :: (135, .iload_n 1, 0, 0, .null, []) :: (136, .lconst 0, 0, 0, .long 0, []) :: (137, .iload_n 3, 0, 0, .null, []) :: (138, .invokevirtual 137, 128, 3, .ref 5, []) :: (141, .ireturn, 0, 0, .null, []) :: B5_make_142
def B5_make_129 : List am_I := (129, .iconst 0, 0, 0, .int 0, []) :: B5_make_130
def B5_make_110 : List am_I := (110, .aload_n 0, 0, 0, .null, []) :: (111, .dup, 0, 0, .null, []) :: (112, .getfield 134, 5, 18, .null, []) :: (115, .aload_n 0, 0, 0, .null, []) :: (116, .getfield 7, 5, 0, .null, []) :: (119, .iload_n 1, 0, 0, .null, []) :: (120, .iaload, 0, 0, .null, []) :: (121, .iconst 2, 0, 0, .int 2, []) :: (122, .if_icmp .ne 7, 129, 0, .null, []) :: (125, .iconst 1, 0, 0, .int 1, []) :: (126, .goto 4, 130, 0, .null, []) :: B5_make_129
def B5_make_104 : List am_I := (104, .iinc 4 1, 0, 0, .int 1, []) :: (107, .goto (-40), 67, 0, .null, []) :: B5_make_110
def B5_make_67 : List am_I := (67, .iload 4, 0, 0, .null, []) :: (69, .iload_n 3, 0, 0, .null, []) :: (70, .if_icmp .ge 40, 110, 0, .null, []) :: (73, .aload_n 0, 0, 0, .null, []) :: (74, .getfield 23, 5, 4, .null, []) :: (77, .aload_n 0, 0, 0, .null, []) :: (78, .iload_n 3, 0, 0, .null, []) :: (79, .iconst 1, 0, 0, .int 1, []) :: (80, .isub, 0, 0, .null, []) :: (81, .iload 4, 0, 0, .null, []) :: (83, .isub, 0, 0, .null, []) :: (84, .invokevirtual 131, 121, 1, .ref 5, []) :: (87, .iaload, 0, 0, .null, []) :: (88, .aload_n 0, 0, 0, .null, []) :: (89, .getfield 16, 5, 2, .null, []) :: (92, .iconst 3, 0, 0, .int 3, []) :: (93, .iload_n 1, 0, 0, .null, []) :: (94, .imul, 0, 0, .null, []) :: (95, .iload 4, 0, 0, .null, []) :: (97, .iadd, 0, 0, .null, []) :: (98, .iaload, 0, 0, .null, []) :: (99, .if_icmp .eq 5, 104, 0, .null, []) :: (102, .iconst (-1), 0, 0, .int (-1), []) :: (103, .ireturn, 0, 0, .null, []) :: B5_make_104
def B5_make_64 : List am_I := (64, .iconst 0, 0, 0, .int 0, []) :: (65, .istore 4, 0, 0, .null, []) :: B5_make_67
def B5_make_48 : List am_I := (48, .aload_n 0, 0, 0, .null, []) :: (49, .iload_n 1, 0, 0, .null, []) :: (50, .invokevirtual 124, 127, 1, .ref 5, []) :: (53, .istore_n 3, 0, 0, .null, []) :: (54, .aload_n 0, 0, 0, .null, []) :: (55, .invokevirtual 127, 120, 0, .ref 5, []) :: (58, .iload_n 3, 0, 0, .null, []) :: (59, .if_icmp .ge 5, 64, 0, .null, []) :: (62, .iconst (-1), 0, 0, .int (-1), []) :: (63, .ireturn, 0, 0, .null, []) :: B5_make_64
def B5_make_10 : List am_I := (10, .aload_n 0, 0, 0, .null, []) :: (11, .getfield 7, 5, 0, .null, []) :: (14, .iload_n 1, 0, 0, .null, []) :: (15, .iaload, 0, 0, .null, []) :: (16, .tableswitch 290 1 4 #[32, 32, 126, 217], 306, 0, .null, [(1, 48), (2, 48), (3, 142), (4, 233)]) :: B5_make_48
def B5_make_0 : List am_I := (0, .aload_n 0, 0, 0, .null, []) :: (1, .iload_n 1, 0, 0, .null, []) :: (2, .invokevirtual 55, 106, 1, .ref 5, []) :: (5, .ifCond .ne 5, 10, 0, .null, []) :: (8, .iconst (-1), 0, 0, .int (-1), []) :: (9, .ireturn, 0, 0, .null, []) :: B5_make_10
set_option maxRecDepth 20000 in
theorem vB5_make_306 : am_vl 5 false (some .int) cX5_make B5_make_306 = true := am_vt (tl := []) 2 0 (by decide +kernel) rfl rfl rfl
set_option maxRecDepth 20000 in
theorem vB5_make_288 : am_vl 5 false (some .int) cX5_make B5_make_288 = true := am_vt (tl := B5_make_306) 12 306 (by decide +kernel) rfl rfl vB5_make_306
set_option maxRecDepth 20000 in
theorem vB5_make_276 : am_vl 5 false (some .int) cX5_make B5_make_276 = true := am_vt (tl := B5_make_288) 6 288 (by decide +kernel) rfl rfl vB5_make_288
set_option maxRecDepth 20000 in
theorem vB5_make_274 : am_vl 5 false (some .int) cX5_make B5_make_274 = true := am_vt (tl := B5_make_276) 2 276 (by decide +kernel) rfl rfl vB5_make_276
set_option maxRecDepth 20000 in
theorem vB5_make_271 : am_vl 5 false (some .int) cX5_make B5_make_271 = true := am_vt (tl := B5_make_274) 1 274 (by decide +kernel) rfl rfl vB5_make_274
set_option maxRecDepth 20000 in
theorem vB5_make_233 : am_vl 5 false (some .int) cX5_make B5_make_233 = true := am_vt (tl := B5_make_271) 24 271 (by decide +kernel) rfl rfl vB5_make_271
set_option maxRecDepth 20000 in
theorem vB5_make_229 : am_vl 5 false (some .int) cX5_make B5_make_229 = true := am_vt (tl := B5_make_233) 2 233 (by decide +kernel) rfl rfl vB5_make_233
set_option maxRecDepth 20000 in
theorem vB5_make_228 : am_vl 5 false (some .int) cX5_make B5_make_228 = true := am_vt (tl := B5_make_229) 1 229 (by decide +kernel) rfl rfl vB5_make_229
set_option maxRecDepth 20000 in
theorem vB5_make_214 : am_vl 5 false (some .int) cX5_make B5_make_214 = true := am_vt (tl := B5_make_228) 9 228 (by decide +kernel) rfl rfl vB5_make_228
set_option maxRecDepth 20000 in
theorem vB5_make_196 : am_vl 5 false (some .int) cX5_make B5_make_196 = true := am_vt (tl := B5_make_214) 9 214 (by decide +kernel) rfl rfl vB5_make_214
set_option maxRecDepth 20000 in
theorem vB5_make_194 : am_vl 5 false (some .int) cX5_make B5_make_194 = true := am_vt (tl := B5_make_196) 2 196 (by decide +kernel) rfl rfl vB5_make_196
set_option maxRecDepth 20000 in
theorem vB5_make_153 : am_vl 5 false (some .int) cX5_make B5_make_153 = true := am_vt (tl := B5_make_194) 24 194 (by decide +kernel) rfl rfl vB5_make_194
set_option maxRecDepth 20000 in
theorem vB5_make_142 : am_vl 5 false (some .int) cX5_make B5_make_142 = true := am_vt (tl := B5_make_153) 7 153 (by decide +kernel) rfl rfl vB5_make_153
set_option maxRecDepth 20000 in
theorem vB5_make_130 : am_vl 5 false (some .int) cX5_make B5_make_130 = true := am_vt (tl := B5_make_142) 8 142 (by decide +kernel) rfl rfl vB5_make_142
set_option maxRecDepth 20000 in
theorem vB5_make_129 : am_vl 5 false (some .int) cX5_make B5_make_129 = true := am_vt (tl := B5_make_130) 1 130 (by decide +kernel) rfl rfl vB5_make_130
set_option maxRecDepth 20000 in
theorem vB5_make_110 : am_vl 5 false (some .int) cX5_make B5_make_110 = true := am_vt (tl := B5_make_129) 11 129 (by decide +kernel) rfl rfl vB5_make_129
set_option maxRecDepth 20000 in
theorem vB5_make_104 : am_vl 5 false (some .int) cX5_make B5_make_104 = true := am_vt (tl := B5_make_110) 2 110 (by decide +kernel) rfl rfl vB5_make_110
set_option maxRecDepth 20000 in
theorem vB5_make_67 : am_vl 5 false (some .int) cX5_make B5_make_67 = true := am_vt (tl := B5_make_104) 24 104 (by decide +kernel) rfl rfl vB5_make_104
set_option maxRecDepth 20000 in
theorem vB5_make_64 : am_vl 5 false (some .int) cX5_make B5_make_64 = true := am_vt (tl := B5_make_67) 2 67 (by decide +kernel) rfl rfl vB5_make_67
set_option maxRecDepth 20000 in
theorem vB5_make_48 : am_vl 5 false (some .int) cX5_make B5_make_48 = true := am_vt (tl := B5_make_64) 10 64 (by decide +kernel) rfl rfl vB5_make_64
set_option maxRecDepth 20000 in
theorem vB5_make_10 : am_vl 5 false (some .int) cX5_make B5_make_10 = true := am_vt (tl := B5_make_48) 5 48 (by decide +kernel) rfl rfl vB5_make_48
set_option maxRecDepth 20000 in
theorem vB5_make_0 : am_vl 5 false (some .int) cX5_make B5_make_0 = true := am_vt (tl := B5_make_10) 6 10 (by decide +kernel) rfl rfl vB5_make_10
def B5_gather_99 : List am_I := (99, .aload_n 0, 0, 0, .null, []) :: (100, .dup, 0, 0, .null, []) :: (101, .getfield 94, 5, 17, .null, []) :: (104, .iconst 1, 0, 0, .int 1, []) :: (105, .iadd, 0, 0, .null, []) :: (106, .putfield 94, 5, 17, .null, []) :: (109, .aload_n 0, 0, 0, .null, []) :: (110, .iload_n 1, 0, 0, .null, []) :: (111, .iload_n 2, 0, 0, .null, []) :: (112, .i2l, 0, 0, .null, []) :: (113, .iload_n 2, 0, 0, .null, []) :: (114, .invokevirtual 137, 128, 3, .ref 5, []) :: (117, .ireturn, 0, 0, .null, []) :: []
def B5_gather_96 : List am_I := (96, .bipush (-2), 0, 0, .int (-2), []) :: (98, .ireturn, 0, 0, .null, []) :: B5_gather_99
def B5_gather_74 : List am_I := (74, .aload_n 0, 0, 0, .null, []) :: (75, .getfield 94, 5, 17, .null, []) :: (78, .bipush 20, 0, 0, .int 20, []) :: (80, .if_icmp .eq 16, 96, 0, .null, []) :: (83, .iload_n 2, 0, 0, .null, []) :: (84, .ifCond .ne 15, 99, 0, .null, []) :: (87, .aload_n 0, 0, 0, .null, []) :: (88, .getfield 100, 5, 12, .null, []) :: (91, .bipush 24, 0, 0, .int 24, []) :: (93, .if_icmp .ne 6, 99, 0, .null, []) :: B5_gather_96
def B5_gather_68 : List am_I := (68, .iinc 3 1, 0, 0, .int 1, []) :: (71, .goto (-31), 40, 0, .null, []) :: B5_gather_74
def B5_gather_40 : List am_I := (40, .iload_n 3, 0, 0, .null, []) :: (41, .iload_n 2, 0, 0, .null, []) :: (42, .if_icmp .ge 32, 74, 0, .null, []) :: (45, .aload_n 0, 0, 0, .null, []) :: (46, .getfield 23, 5, 4, .null, []) :: (49, .aload_n 0, 0, 0, .null, []) :: (50, .iload_n 3, 0, 0, .null, []) :: (51, .invokevirtual 131, 121, 1, .ref 5, []) :: (54, .iaload, 0, 0, .null, []) :: (55, .aload_n 0, 0, 0, .null, []) :: (56, .getfield 16, 5, 2, .null, []) :: (59, .iconst 3, 0, 0, .int 3, []) :: (60, .iload_n 1, 0, 0, .null, []) :: (61, .imul, 0, 0, .null, []) :: (62, .iaload, 0, 0, .null, []) :: (63, .if_icmp .eq 5, 68, 0, .null, []) :: (66, .iconst (-1), 0, 0, .int (-1), []) :: (67, .ireturn, 0, 0, .null, []) :: B5_gather_68
def B5_gather_38 : List am_I := (38, .iconst 0, 0, 0, .int 0, []) :: (39, .istore_n 3, 0, 0, .null, []) :: B5_gather_40
def B5_gather_36 : List am_I := (36, .iconst (-1), 0, 0, .int (-1), []) :: (37, .ireturn, 0, 0, .null, []) :: B5_gather_38
def B5_gather_0 : List am_I := (0, .aload_n 0, 0, 0, .null, []) :: (1, .iload_n 1, 0, 0, .null, []) :: (2, .invokevirtual 55, 106, 1, .ref 5, []) :: (5, .ifCond .eq 31, 36, 0, .null, []) :: (8, .aload_n 0, 0, 0, .null, []) :: (9, .getfield 7, 5, 0, .null, []) :: (12, .iload_n 1, 0, 0, .null, []) :: (13, .iaload, 0, 0, .null, []) :: (14, .iconst 5, 0, 0, .int 5, []) :: (15, .if_icmp .ne 21, 36, 0, .null, []) :: (18, .iload_n 2, 0, 0, .null, []) :: (19, .iconst 0, 0, 0, .int 0, []) :: (20, .bipush 8, 0, 0, .int 8, []) :: (22, .invokestatic 51, 105, 3, .int 0, []) :: (25, .ifCond .eq 11, 36, 0, .null, []) :: (28, .aload_n 0, 0, 0, .null, []) :: (29, .invokevirtual 127, 120, 0, .ref 5, []) :: (32, .iload_n 2, 0, 0, .null, []) :: (33, .if_icmp .ge 5, 38, 0, .null, []) :: B5_gather_36
set_option maxRecDepth 20000 in
theorem vB5_gather_99 : am_vl 5 false (some .int) cX5_gather B5_gather_99 = true := am_vt (tl := []) 13 0 (by decide +kernel) rfl rfl rfl
set_option maxRecDepth 20000 in
theorem vB5_gather_96 : am_vl 5 false (some .int) cX5_gather B5_gather_96 = true := am_vt (tl := B5_gather_99) 2 99 (by decide +kernel) rfl rfl vB5_gather_99
set_option maxRecDepth 20000 in
theorem vB5_gather_74 : am_vl 5 false (some .int) cX5_gather B5_gather_74 = true := am_vt (tl := B5_gather_96) 10 96 (by decide +kernel) rfl rfl vB5_gather_96
set_option maxRecDepth 20000 in
theorem vB5_gather_68 : am_vl 5 false (some .int) cX5_gather B5_gather_68 = true := am_vt (tl := B5_gather_74) 2 74 (by decide +kernel) rfl rfl vB5_gather_74
set_option maxRecDepth 20000 in
theorem vB5_gather_40 : am_vl 5 false (some .int) cX5_gather B5_gather_40 = true := am_vt (tl := B5_gather_68) 18 68 (by decide +kernel) rfl rfl vB5_gather_68
set_option maxRecDepth 20000 in
theorem vB5_gather_38 : am_vl 5 false (some .int) cX5_gather B5_gather_38 = true := am_vt (tl := B5_gather_40) 2 40 (by decide +kernel) rfl rfl vB5_gather_40
set_option maxRecDepth 20000 in
theorem vB5_gather_36 : am_vl 5 false (some .int) cX5_gather B5_gather_36 = true := am_vt (tl := B5_gather_38) 2 38 (by decide +kernel) rfl rfl vB5_gather_38
set_option maxRecDepth 20000 in
theorem vB5_gather_0 : am_vl 5 false (some .int) cX5_gather B5_gather_0 = true := am_vt (tl := B5_gather_36) 19 36 (by decide +kernel) rfl rfl vB5_gather_36
def B5_open_60 : List am_I := (60, .iload_n 1, 0, 0, .null, []) :: (61, .invokevirtual 97, 117, 1, .ref 5, []) :: (64, .iconst 1, 0, 0, .int 1, []) :: (65, .ireturn, 0, 0, .null, []) :: []
def B5_open_23 : List am_I := (23, .aload_n 0, 0, 0, .null, []) :: (24, .iconst 0, 0, 0, .int 0, []) :: (25, .invokevirtual 131, 121, 1, .ref 5, []) :: (28, .istore_n 1, 0, 0, .null, []) :: (29, .aload_n 0, 0, 0, .null, []) :: (30, .getfield 36, 5, 9, .null, []) :: (33, .aload_n 0, 0, 0, .null, []) :: (34, .getfield 100, 5, 12, .null, []) :: (37, .iconst 1, 0, 0, .int 1, []) :: (38, .isub, 0, 0, .null, []) :: (39, .aload_n 0, 0, 0, .null, []) :: (40, .getfield 26, 5, 5, .null, []) :: (43, .bipush 8, 0, 0, .int 8, []) :: (45, .iload_n 1, 0, 0, .null, []) :: (46, .imul, 0, 0, .null, []) :: (47, .iaload, 0, 0, .null, []) :: (48, .iastore, 0, 0, .null, []) :: (49, .aload_n 0, 0, 0, .null, []) :: (50, .dup, 0, 0, .null, []) :: (51, .getfield 91, 5, 16, .null, []) :: (54, .iconst 1, 0, 0, .int 1, []) :: (55, .isub, 0, 0, .null, []) :: (56, .putfield 91, 5, 16, .null, []) :: (59, .aload_n 0, 0, 0, .null, []) :: B5_open_60
def B5_open_21 : List am_I := (21, .iconst (-1), 0, 0, .int (-1), []) :: (22, .ireturn, 0, 0, .null, []) :: B5_open_23
def B5_open_0 : List am_I := (0, .aload_n 0, 0, 0, .null, []) :: (1, .invokevirtual 127, 120, 0, .ref 5, []) :: (4, .iconst 1, 0, 0, .int 1, []) :: (5, .if_icmp .lt 16, 21, 0, .null, []) :: (8, .aload_n 0, 0, 0, .null, []) :: (9, .aload_n 0, 0, 0, .null, []) :: (10, .iconst 0, 0, 0, .int 0, []) :: (11, .invokevirtual 131, 121, 1, .ref 5, []) :: (14, .invokevirtual 79, 118, 1, .ref 5, []) :: (17, .iconst 4, 0, 0, .int 4, []) :: (18, .if_icmp .eq 5, 23, 0, .null, []) :: B5_open_21
set_option maxRecDepth 20000 in
theorem vB5_open_60 : am_vl 5 false (some .int) cX5_open B5_open_60 = true := am_vt (tl := []) 4 0 (by decide +kernel) rfl rfl rfl
set_option maxRecDepth 20000 in
theorem vB5_open_23 : am_vl 5 false (some .int) cX5_open B5_open_23 = true := am_vt (tl := B5_open_60) 24 60 (by decide +kernel) rfl rfl vB5_open_60
set_option maxRecDepth 20000 in
theorem vB5_open_21 : am_vl 5 false (some .int) cX5_open B5_open_21 = true := am_vt (tl := B5_open_23) 2 23 (by decide +kernel) rfl rfl vB5_open_23
set_option maxRecDepth 20000 in
theorem vB5_open_0 : am_vl 5 false (some .int) cX5_open B5_open_0 = true := am_vt (tl := B5_open_21) 11 21 (by decide +kernel) rfl rfl vB5_open_21
def B5_apart_135 : List am_I := (135, .aload_n 0, 0, 0, .null, []) :: (136, .iload_n 1, 0, 0, .null, []) :: (137, .invokevirtual 97, 117, 1, .ref 5, []) :: (140, .iload_n 2, 0, 0, .null, []) :: (141, .ireturn, 0, 0, .null, []) :: []
def B5_apart_108 : List am_I := (108, .iload_n 3, 0, 0, .null, []) :: (109, .iload_n 2, 0, 0, .null, []) :: (110, .if_icmp .ge 25, 135, 0, .null, []) :: (113, .aload_n 0, 0, 0, .null, []) :: (114, .aload_n 0, 0, 0, .null, []) :: (115, .getfield 26, 5, 5, .null, []) :: (118, .bipush 8, 0, 0, .int 8, []) :: (120, .iload_n 1, 0, 0, .null, []) :: (121, .imul, 0, 0, .null, []) :: (122, .iload_n 3, 0, 0, .null, []) :: (123, .iadd, 0, 0, .null, []) :: (124, .iaload, 0, 0, .null, []) :: (125, .invokevirtual 121, 125, 1, .ref 5, []) :: (128, .pop, 0, 0, .null, []) :: (129, .iinc 3 1, 0, 0, .int 1, []) :: (132, .goto (-24), 108, 0, .null, []) :: B5_apart_135
def B5_apart_96 : List am_I := (96, .aload_n 0, 0, 0, .null, []) :: (97, .dup, 0, 0, .null, []) :: (98, .getfield 100, 5, 12, .null, []) :: (101, .iconst 1, 0, 0, .int 1, []) :: (102, .isub, 0, 0, .null, []) :: (103, .putfield 100, 5, 12, .null, []) :: (106, .iconst 0, 0, 0, .int 0, []) :: (107, .istore_n 3, 0, 0, .null, []) :: B5_apart_108
def B5_apart_80 : List am_I := (80, .aload_n 0, 0, 0, .null, []) :: (81, .getfield 100, 5, 12, .null, []) :: (84, .iconst 1, 0, 0, .int 1, []) :: (85, .isub, 0, 0, .null, []) :: (86, .iload_n 2, 0, 0, .null, []) :: (87, .iadd, 0, 0, .null, []) :: (88, .bipush 24, 0, 0, .int 24, []) :: (90, .if_icmp .le 6, 96, 0, .null, []) :: (93, .bipush (-2), 0, 0, .int (-2), []) :: (95, .ireturn, 0, 0, .null, []) :: B5_apart_96
def B5_apart_72 : List am_I := (72, .iadd, 0, 0, .null, []) :: (73, .istore_n 2, 0, 0, .null, []) :: (74, .iinc 3 1, 0, 0, .int 1, []) :: (77, .goto (-31), 46, 0, .null, []) :: B5_apart_80
def B5_apart_71 : List am_I := (71, .iconst 0, 0, 0, .int 0, []) :: B5_apart_72
def B5_apart_46 : List am_I := (46, .iload_n 3, 0, 0, .null, []) :: (47, .bipush 8, 0, 0, .int 8, []) :: (49, .if_icmp .ge 31, 80, 0, .null, []) :: (52, .iload_n 2, 0, 0, .null, []) :: (53, .aload_n 0, 0, 0, .null, []) :: (54, .getfield 26, 5, 5, .null, []) :: (57, .bipush 8, 0, 0, .int 8, []) :: (59, .iload_n 1, 0, 0, .null, []) :: (60, .imul, 0, 0, .null, []) :: (61, .iload_n 3, 0, 0, .null, []) :: (62, .iadd, 0, 0, .null, []) :: (63, .iaload, 0, 0, .null, []) :: (64, .ifCond .eq 7, 71, 0, .null, []) :: (67, .iconst 1, 0, 0, .int 1, []) :: (68, .goto 4, 72, 0, .null, []) :: B5_apart_71
def B5_apart_36 : List am_I := (36, .aload_n 0, 0, 0, .null, []) :: (37, .iconst 0, 0, 0, .int 0, []) :: (38, .invokevirtual 131, 121, 1, .ref 5, []) :: (41, .istore_n 1, 0, 0, .null, []) :: (42, .iconst 0, 0, 0, .int 0, []) :: (43, .istore_n 2, 0, 0, .null, []) :: (44, .iconst 0, 0, 0, .int 0, []) :: (45, .istore_n 3, 0, 0, .null, []) :: B5_apart_46
def B5_apart_34 : List am_I := (34, .iconst (-1), 0, 0, .int (-1), []) :: (35, .ireturn, 0, 0, .null, []) :: B5_apart_36
def B5_apart_0 : List am_I := (0, .aload_n 0, 0, 0, .null, []) :: (1, .invokevirtual 127, 120, 0, .ref 5, []) :: (4, .iconst 1, 0, 0, .int 1, []) :: (5, .if_icmp .lt 29, 34, 0, .null, []) :: (8, .aload_n 0, 0, 0, .null, []) :: (9, .aload_n 0, 0, 0, .null, []) :: (10, .iconst 0, 0, 0, .int 0, []) :: (11, .invokevirtual 131, 121, 1, .ref 5, []) :: (14, .invokevirtual 79, 118, 1, .ref 5, []) :: (17, .iconst 1, 0, 0, .int 1, []) :: (18, .if_icmp .eq 18, 36, 0, .null, []) :: (21, .aload_n 0, 0, 0, .null, []) :: (22, .aload_n 0, 0, 0, .null, []) :: (23, .iconst 0, 0, 0, .int 0, []) :: (24, .invokevirtual 131, 121, 1, .ref 5, []) :: (27, .invokevirtual 79, 118, 1, .ref 5, []) :: (30, .iconst 3, 0, 0, .int 3, []) :: (31, .if_icmp .eq 5, 36, 0, .null, []) :: B5_apart_34
set_option maxRecDepth 20000 in
theorem vB5_apart_135 : am_vl 5 false (some .int) cX5_apart B5_apart_135 = true := am_vt (tl := []) 5 0 (by decide +kernel) rfl rfl rfl
set_option maxRecDepth 20000 in
theorem vB5_apart_108 : am_vl 5 false (some .int) cX5_apart B5_apart_108 = true := am_vt (tl := B5_apart_135) 16 135 (by decide +kernel) rfl rfl vB5_apart_135
set_option maxRecDepth 20000 in
theorem vB5_apart_96 : am_vl 5 false (some .int) cX5_apart B5_apart_96 = true := am_vt (tl := B5_apart_108) 8 108 (by decide +kernel) rfl rfl vB5_apart_108
set_option maxRecDepth 20000 in
theorem vB5_apart_80 : am_vl 5 false (some .int) cX5_apart B5_apart_80 = true := am_vt (tl := B5_apart_96) 10 96 (by decide +kernel) rfl rfl vB5_apart_96
set_option maxRecDepth 20000 in
theorem vB5_apart_72 : am_vl 5 false (some .int) cX5_apart B5_apart_72 = true := am_vt (tl := B5_apart_80) 4 80 (by decide +kernel) rfl rfl vB5_apart_80
set_option maxRecDepth 20000 in
theorem vB5_apart_71 : am_vl 5 false (some .int) cX5_apart B5_apart_71 = true := am_vt (tl := B5_apart_72) 1 72 (by decide +kernel) rfl rfl vB5_apart_72
set_option maxRecDepth 20000 in
theorem vB5_apart_46 : am_vl 5 false (some .int) cX5_apart B5_apart_46 = true := am_vt (tl := B5_apart_71) 15 71 (by decide +kernel) rfl rfl vB5_apart_71
set_option maxRecDepth 20000 in
theorem vB5_apart_36 : am_vl 5 false (some .int) cX5_apart B5_apart_36 = true := am_vt (tl := B5_apart_46) 8 46 (by decide +kernel) rfl rfl vB5_apart_46
set_option maxRecDepth 20000 in
theorem vB5_apart_34 : am_vl 5 false (some .int) cX5_apart B5_apart_34 = true := am_vt (tl := B5_apart_36) 2 36 (by decide +kernel) rfl rfl vB5_apart_36
set_option maxRecDepth 20000 in
theorem vB5_apart_0 : am_vl 5 false (some .int) cX5_apart B5_apart_0 = true := am_vt (tl := B5_apart_34) 18 34 (by decide +kernel) rfl rfl vB5_apart_34
def B5_drop_10 : List am_I := (10, .aload_n 0, 0, 0, .null, []) :: (11, .dup, 0, 0, .null, []) :: (12, .getfield 100, 5, 12, .null, []) :: (15, .iconst 1, 0, 0, .int 1, []) :: (16, .isub, 0, 0, .null, []) :: (17, .putfield 100, 5, 12, .null, []) :: (20, .aload_n 0, 0, 0, .null, []) :: (21, .aload_n 0, 0, 0, .null, []) :: (22, .getfield 36, 5, 9, .null, []) :: (25, .aload_n 0, 0, 0, .null, []) :: (26, .getfield 100, 5, 12, .null, []) :: (29, .iaload, 0, 0, .null, []) :: (30, .invokevirtual 88, 119, 1, .ref 5, []) :: (33, .iconst 1, 0, 0, .int 1, []) :: (34, .ireturn, 0, 0, .null, []) :: []
def B5_drop_0 : List am_I := (0, .aload_n 0, 0, 0, .null, []) :: (1, .invokevirtual 127, 120, 0, .ref 5, []) :: (4, .iconst 1, 0, 0, .int 1, []) :: (5, .if_icmp .ge 5, 10, 0, .null, []) :: (8, .iconst (-1), 0, 0, .int (-1), []) :: (9, .ireturn, 0, 0, .null, []) :: B5_drop_10
set_option maxRecDepth 20000 in
theorem vB5_drop_10 : am_vl 5 false (some .int) cX5_drop B5_drop_10 = true := am_vt (tl := []) 15 0 (by decide +kernel) rfl rfl rfl
set_option maxRecDepth 20000 in
theorem vB5_drop_0 : am_vl 5 false (some .int) cX5_drop B5_drop_0 = true := am_vt (tl := B5_drop_10) 6 10 (by decide +kernel) rfl rfl vB5_drop_10
def B5_store_47 : List am_I := (47, .aload_n 0, 0, 0, .null, []) :: (48, .dup, 0, 0, .null, []) :: (49, .getfield 100, 5, 12, .null, []) :: (52, .iconst 1, 0, 0, .int 1, []) :: (53, .isub, 0, 0, .null, []) :: (54, .putfield 100, 5, 12, .null, []) :: (57, .aload_n 0, 0, 0, .null, []) :: (58, .getfield 39, 5, 10, .null, []) :: (61, .aload_n 0, 0, 0, .null, []) :: (62, .iload_n 1, 0, 0, .null, []) :: (63, .invokevirtual 104, 122, 1, .ref 5, []) :: (66, .aload_n 0, 0, 0, .null, []) :: (67, .getfield 36, 5, 9, .null, []) :: (70, .aload_n 0, 0, 0, .null, []) :: (71, .getfield 100, 5, 12, .null, []) :: (74, .iaload, 0, 0, .null, []) :: (75, .iastore, 0, 0, .null, []) :: (76, .iconst 1, 0, 0, .int 1, []) :: (77, .ireturn, 0, 0, .null, []) :: []
def B5_store_20 : List am_I := (20, .aload_n 0, 0, 0, .null, []) :: (21, .getfield 39, 5, 10, .null, []) :: (24, .aload_n 0, 0, 0, .null, []) :: (25, .iload_n 1, 0, 0, .null, []) :: (26, .invokevirtual 104, 122, 1, .ref 5, []) :: (29, .iaload, 0, 0, .null, []) :: (30, .ifCond .eq 17, 47, 0, .null, []) :: (33, .aload_n 0, 0, 0, .null, []) :: (34, .aload_n 0, 0, 0, .null, []) :: (35, .getfield 39, 5, 10, .null, []) :: (38, .aload_n 0, 0, 0, .null, []) :: (39, .iload_n 1, 0, 0, .null, []) :: (40, .invokevirtual 104, 122, 1, .ref 5, []) :: (43, .iaload, 0, 0, .null, []) :: (44, .invokevirtual 88, 119, 1, .ref 5, []) :: B5_store_47
def B5_store_18 : List am_I := (18, .iconst (-1), 0, 0, .int (-1), []) :: (19, .ireturn, 0, 0, .null, []) :: B5_store_20
def B5_store_0 : List am_I := (0, .iload_n 1, 0, 0, .null, []) :: (1, .iconst 0, 0, 0, .int 0, []) :: (2, .bipush 7, 0, 0, .int 7, []) :: (4, .invokestatic 51, 105, 3, .int 0, []) :: (7, .ifCond .eq 11, 18, 0, .null, []) :: (10, .aload_n 0, 0, 0, .null, []) :: (11, .invokevirtual 127, 120, 0, .ref 5, []) :: (14, .iconst 1, 0, 0, .int 1, []) :: (15, .if_icmp .ge 5, 20, 0, .null, []) :: B5_store_18
set_option maxRecDepth 20000 in
theorem vB5_store_47 : am_vl 5 false (some .int) cX5_store B5_store_47 = true := am_vt (tl := []) 19 0 (by decide +kernel) rfl rfl rfl
set_option maxRecDepth 20000 in
theorem vB5_store_20 : am_vl 5 false (some .int) cX5_store B5_store_20 = true := am_vt (tl := B5_store_47) 15 47 (by decide +kernel) rfl rfl vB5_store_47
set_option maxRecDepth 20000 in
theorem vB5_store_18 : am_vl 5 false (some .int) cX5_store B5_store_18 = true := am_vt (tl := B5_store_20) 2 20 (by decide +kernel) rfl rfl vB5_store_20
set_option maxRecDepth 20000 in
theorem vB5_store_0 : am_vl 5 false (some .int) cX5_store B5_store_0 = true := am_vt (tl := B5_store_18) 9 18 (by decide +kernel) rfl rfl vB5_store_18
def B5_load_37 : List am_I := (37, .aload_n 0, 0, 0, .null, []) :: (38, .getfield 39, 5, 10, .null, []) :: (41, .aload_n 0, 0, 0, .null, []) :: (42, .iload_n 1, 0, 0, .null, []) :: (43, .invokevirtual 104, 122, 1, .ref 5, []) :: (46, .iaload, 0, 0, .null, []) :: (47, .istore_n 2, 0, 0, .null, []) :: (48, .aload_n 0, 0, 0, .null, []) :: (49, .getfield 39, 5, 10, .null, []) :: (52, .aload_n 0, 0, 0, .null, []) :: (53, .iload_n 1, 0, 0, .null, []) :: (54, .invokevirtual 104, 122, 1, .ref 5, []) :: (57, .iconst 0, 0, 0, .int 0, []) :: (58, .iastore, 0, 0, .null, []) :: (59, .aload_n 0, 0, 0, .null, []) :: (60, .iload_n 2, 0, 0, .null, []) :: (61, .invokevirtual 121, 125, 1, .ref 5, []) :: (64, .ireturn, 0, 0, .null, []) :: []
def B5_load_25 : List am_I := (25, .aload_n 0, 0, 0, .null, []) :: (26, .getfield 100, 5, 12, .null, []) :: (29, .bipush 24, 0, 0, .int 24, []) :: (31, .if_icmp .ne 6, 37, 0, .null, []) :: (34, .bipush (-2), 0, 0, .int (-2), []) :: (36, .ireturn, 0, 0, .null, []) :: B5_load_37
def B5_load_23 : List am_I := (23, .iconst (-1), 0, 0, .int (-1), []) :: (24, .ireturn, 0, 0, .null, []) :: B5_load_25
def B5_load_0 : List am_I := (0, .iload_n 1, 0, 0, .null, []) :: (1, .iconst 0, 0, 0, .int 0, []) :: (2, .bipush 7, 0, 0, .int 7, []) :: (4, .invokestatic 51, 105, 3, .int 0, []) :: (7, .ifCond .eq 16, 23, 0, .null, []) :: (10, .aload_n 0, 0, 0, .null, []) :: (11, .getfield 39, 5, 10, .null, []) :: (14, .aload_n 0, 0, 0, .null, []) :: (15, .iload_n 1, 0, 0, .null, []) :: (16, .invokevirtual 104, 122, 1, .ref 5, []) :: (19, .iaload, 0, 0, .null, []) :: (20, .ifCond .ne 5, 25, 0, .null, []) :: B5_load_23
set_option maxRecDepth 20000 in
theorem vB5_load_37 : am_vl 5 false (some .int) cX5_load B5_load_37 = true := am_vt (tl := []) 18 0 (by decide +kernel) rfl rfl rfl
set_option maxRecDepth 20000 in
theorem vB5_load_25 : am_vl 5 false (some .int) cX5_load B5_load_25 = true := am_vt (tl := B5_load_37) 6 37 (by decide +kernel) rfl rfl vB5_load_37
set_option maxRecDepth 20000 in
theorem vB5_load_23 : am_vl 5 false (some .int) cX5_load B5_load_23 = true := am_vt (tl := B5_load_25) 2 25 (by decide +kernel) rfl rfl vB5_load_25
set_option maxRecDepth 20000 in
theorem vB5_load_0 : am_vl 5 false (some .int) cX5_load B5_load_0 = true := am_vt (tl := B5_load_23) 12 23 (by decide +kernel) rfl rfl vB5_load_23
def B5_set_40 : List am_I := (40, .aload_n 0, 0, 0, .null, []) :: (41, .iload_n 3, 0, 0, .null, []) :: (42, .invokevirtual 88, 119, 1, .ref 5, []) :: (45, .aload_n 0, 0, 0, .null, []) :: (46, .dup, 0, 0, .null, []) :: (47, .getfield 100, 5, 12, .null, []) :: (50, .iconst 1, 0, 0, .int 1, []) :: (51, .isub, 0, 0, .null, []) :: (52, .putfield 100, 5, 12, .null, []) :: (55, .aload_n 0, 0, 0, .null, []) :: (56, .aload_n 0, 0, 0, .null, []) :: (57, .getfield 36, 5, 9, .null, []) :: (60, .aload_n 0, 0, 0, .null, []) :: (61, .getfield 100, 5, 12, .null, []) :: (64, .iaload, 0, 0, .null, []) :: (65, .invokevirtual 144, 124, 1, .ref 5, []) :: (68, .iconst 1, 0, 0, .int 1, []) :: (69, .ireturn, 0, 0, .null, []) :: []
def B5_set_38 : List am_I := (38, .iconst (-1), 0, 0, .int (-1), []) :: (39, .ireturn, 0, 0, .null, []) :: B5_set_40
def B5_set_0 : List am_I := (0, .aload_n 0, 0, 0, .null, []) :: (1, .iload_n 1, 0, 0, .null, []) :: (2, .iload_n 2, 0, 0, .null, []) :: (3, .invokevirtual 141, 123, 2, .ref 5, []) :: (6, .istore_n 3, 0, 0, .null, []) :: (7, .iload_n 3, 0, 0, .null, []) :: (8, .ifCond .eq 30, 38, 0, .null, []) :: (11, .aload_n 0, 0, 0, .null, []) :: (12, .invokevirtual 127, 120, 0, .ref 5, []) :: (15, .iconst 1, 0, 0, .int 1, []) :: (16, .if_icmp .lt 22, 38, 0, .null, []) :: (19, .aload_n 0, 0, 0, .null, []) :: (20, .getfield 23, 5, 4, .null, []) :: (23, .aload_n 0, 0, 0, .null, []) :: (24, .iconst 0, 0, 0, .int 0, []) :: (25, .invokevirtual 131, 121, 1, .ref 5, []) :: (28, .iaload, 0, 0, .null, []) :: (29, .aload_n 0, 0, 0, .null, []) :: (30, .getfield 23, 5, 4, .null, []) :: (33, .iload_n 3, 0, 0, .null, []) :: (34, .iaload, 0, 0, .null, []) :: (35, .if_icmp .eq 5, 40, 0, .null, []) :: B5_set_38
set_option maxRecDepth 20000 in
theorem vB5_set_40 : am_vl 5 false (some .int) cX5_set B5_set_40 = true := am_vt (tl := []) 18 0 (by decide +kernel) rfl rfl rfl
set_option maxRecDepth 20000 in
theorem vB5_set_38 : am_vl 5 false (some .int) cX5_set B5_set_38 = true := am_vt (tl := B5_set_40) 2 40 (by decide +kernel) rfl rfl vB5_set_40
set_option maxRecDepth 20000 in
theorem vB5_set_0 : am_vl 5 false (some .int) cX5_set B5_set_0 = true := am_vt (tl := B5_set_38) 22 38 (by decide +kernel) rfl rfl vB5_set_38
def B5_swap_40 : List am_I := (40, .aload_n 0, 0, 0, .null, []) :: (41, .aload_n 0, 0, 0, .null, []) :: (42, .iconst 0, 0, 0, .int 0, []) :: (43, .invokevirtual 131, 121, 1, .ref 5, []) :: (46, .invokevirtual 144, 124, 1, .ref 5, []) :: (49, .aload_n 0, 0, 0, .null, []) :: (50, .getfield 36, 5, 9, .null, []) :: (53, .aload_n 0, 0, 0, .null, []) :: (54, .getfield 100, 5, 12, .null, []) :: (57, .iconst 1, 0, 0, .int 1, []) :: (58, .isub, 0, 0, .null, []) :: (59, .iload_n 3, 0, 0, .null, []) :: (60, .iastore, 0, 0, .null, []) :: (61, .iconst 1, 0, 0, .int 1, []) :: (62, .ireturn, 0, 0, .null, []) :: []
def B5_swap_38 : List am_I := (38, .iconst (-1), 0, 0, .int (-1), []) :: (39, .ireturn, 0, 0, .null, []) :: B5_swap_40
def B5_swap_0 : List am_I := (0, .aload_n 0, 0, 0, .null, []) :: (1, .iload_n 1, 0, 0, .null, []) :: (2, .iload_n 2, 0, 0, .null, []) :: (3, .invokevirtual 141, 123, 2, .ref 5, []) :: (6, .istore_n 3, 0, 0, .null, []) :: (7, .iload_n 3, 0, 0, .null, []) :: (8, .ifCond .eq 30, 38, 0, .null, []) :: (11, .aload_n 0, 0, 0, .null, []) :: (12, .invokevirtual 127, 120, 0, .ref 5, []) :: (15, .iconst 1, 0, 0, .int 1, []) :: (16, .if_icmp .lt 22, 38, 0, .null, []) :: (19, .aload_n 0, 0, 0, .null, []) :: (20, .getfield 23, 5, 4, .null, []) :: (23, .aload_n 0, 0, 0, .null, []) :: (24, .iconst 0, 0, 0, .int 0, []) :: (25, .invokevirtual 131, 121, 1, .ref 5, []) :: (28, .iaload, 0, 0, .null, []) :: (29, .aload_n 0, 0, 0, .null, []) :: (30, .getfield 23, 5, 4, .null, []) :: (33, .iload_n 3, 0, 0, .null, []) :: (34, .iaload, 0, 0, .null, []) :: (35, .if_icmp .eq 5, 40, 0, .null, []) :: B5_swap_38
set_option maxRecDepth 20000 in
theorem vB5_swap_40 : am_vl 5 false (some .int) cX5_swap B5_swap_40 = true := am_vt (tl := []) 15 0 (by decide +kernel) rfl rfl rfl
set_option maxRecDepth 20000 in
theorem vB5_swap_38 : am_vl 5 false (some .int) cX5_swap B5_swap_38 = true := am_vt (tl := B5_swap_40) 2 40 (by decide +kernel) rfl rfl vB5_swap_40
set_option maxRecDepth 20000 in
theorem vB5_swap_0 : am_vl 5 false (some .int) cX5_swap B5_swap_0 = true := am_vt (tl := B5_swap_38) 22 38 (by decide +kernel) rfl rfl vB5_swap_38
def B5_push_109 : List am_I := (109, .getfield 29, 5, 6, .null, []) :: (112, .iload_n 3, 0, 0, .null, []) :: (113, .dup2, 0, 0, .null, []) :: (114, .laload, 0, 0, .null, []) :: (115, .lconst 1, 0, 0, .long 1, []) :: (116, .ladd, 0, 0, .null, []) :: (117, .lastore, 0, 0, .null, []) :: (118, .aload_n 0, 0, 0, .null, []) :: (119, .getfield 29, 5, 6, .null, []) :: (122, .iload_n 3, 0, 0, .null, []) :: (123, .laload, 0, 0, .null, []) :: (124, .l2i, 0, 0, .null, []) :: (125, .ireturn, 0, 0, .null, []) :: []
def B5_push_72 : List am_I := (72, .aload_n 0, 0, 0, .null, []) :: (73, .dup, 0, 0, .null, []) :: (74, .getfield 100, 5, 12, .null, []) :: (77, .iconst 1, 0, 0, .int 1, []) :: (78, .isub, 0, 0, .null, []) :: (79, .putfield 100, 5, 12, .null, []) :: (82, .aload_n 0, 0, 0, .null, []) :: (83, .getfield 26, 5, 5, .null, []) :: (86, .bipush 8, 0, 0, .int 8, []) :: (88, .iload_n 3, 0, 0, .null, []) :: (89, .imul, 0, 0, .null, []) :: (90, .aload_n 0, 0, 0, .null, []) :: (91, .getfield 29, 5, 6, .null, []) :: (94, .iload_n 3, 0, 0, .null, []) :: (95, .laload, 0, 0, .null, []) :: (96, .l2i, 0, 0, .null, []) :: (97, .iadd, 0, 0, .null, []) :: (98, .aload_n 0, 0, 0, .null, []) :: (99, .getfield 36, 5, 9, .null, []) :: (102, .aload_n 0, 0, 0, .null, []) :: (103, .getfield 100, 5, 12, .null, []) :: (106, .iaload, 0, 0, .null, []) :: (107, .iastore, 0, 0, .null, []) :: (108, .aload_n 0, 0, 0, .null, []) :: B5_push_109
def B5_push_56 : List am_I := (56, .aload_n 0, 0, 0, .null, []) :: (57, .getfield 29, 5, 6, .null, []) :: (60, .iload_n 3, 0, 0, .null, []) :: (61, .laload, 0, 0, .null, []) :: (62, .ldc2_w 147, 0, 0, .long 8, []) :: (65, .lcmp, 0, 0, .null, []) :: (66, .ifCond .ne 6, 72, 0, .null, []) :: (69, .bipush (-2), 0, 0, .int (-2), []) :: (71, .ireturn, 0, 0, .null, []) :: B5_push_72
def B5_push_54 : List am_I := (54, .iconst (-1), 0, 0, .int (-1), []) :: (55, .ireturn, 0, 0, .null, []) :: B5_push_56
def B5_push_42 : List am_I := (42, .iconst 3, 0, 0, .int 3, []) :: (43, .aload_n 0, 0, 0, .null, []) :: (44, .getfield 23, 5, 4, .null, []) :: (47, .iload_n 3, 0, 0, .null, []) :: (48, .iaload, 0, 0, .null, []) :: (49, .imul, 0, 0, .null, []) :: (50, .iaload, 0, 0, .null, []) :: (51, .if_icmp .eq 5, 56, 0, .null, []) :: B5_push_54
def B5_push_0 : List am_I := (0, .aload_n 0, 0, 0, .null, []) :: (1, .iload_n 1, 0, 0, .null, []) :: (2, .iload_n 2, 0, 0, .null, []) :: (3, .invokevirtual 141, 123, 2, .ref 5, []) :: (6, .istore_n 3, 0, 0, .null, []) :: (7, .iload_n 3, 0, 0, .null, []) :: (8, .ifCond .eq 46, 54, 0, .null, []) :: (11, .aload_n 0, 0, 0, .null, []) :: (12, .iload_n 3, 0, 0, .null, []) :: (13, .invokevirtual 79, 118, 1, .ref 5, []) :: (16, .iconst 5, 0, 0, .int 5, []) :: (17, .if_icmp .ne 37, 54, 0, .null, []) :: (20, .aload_n 0, 0, 0, .null, []) :: (21, .invokevirtual 127, 120, 0, .ref 5, []) :: (24, .iconst 1, 0, 0, .int 1, []) :: (25, .if_icmp .lt 29, 54, 0, .null, []) :: (28, .aload_n 0, 0, 0, .null, []) :: (29, .getfield 23, 5, 4, .null, []) :: (32, .aload_n 0, 0, 0, .null, []) :: (33, .iconst 0, 0, 0, .int 0, []) :: (34, .invokevirtual 131, 121, 1, .ref 5, []) :: (37, .iaload, 0, 0, .null, []) :: (38, .aload_n 0, 0, 0, .null, []) :: (39, .getfield 16, 5, 2, .null, []) :: B5_push_42
set_option maxRecDepth 20000 in
theorem vB5_push_109 : am_vl 5 false (some .int) cX5_push B5_push_109 = true := am_vt (tl := []) 13 0 (by decide +kernel) rfl rfl rfl
set_option maxRecDepth 20000 in
theorem vB5_push_72 : am_vl 5 false (some .int) cX5_push B5_push_72 = true := am_vt (tl := B5_push_109) 24 109 (by decide +kernel) rfl rfl vB5_push_109
set_option maxRecDepth 20000 in
theorem vB5_push_56 : am_vl 5 false (some .int) cX5_push B5_push_56 = true := am_vt (tl := B5_push_72) 9 72 (by decide +kernel) rfl rfl vB5_push_72
set_option maxRecDepth 20000 in
theorem vB5_push_54 : am_vl 5 false (some .int) cX5_push B5_push_54 = true := am_vt (tl := B5_push_56) 2 56 (by decide +kernel) rfl rfl vB5_push_56
set_option maxRecDepth 20000 in
theorem vB5_push_42 : am_vl 5 false (some .int) cX5_push B5_push_42 = true := am_vt (tl := B5_push_54) 8 54 (by decide +kernel) rfl rfl vB5_push_54
set_option maxRecDepth 20000 in
theorem vB5_push_0 : am_vl 5 false (some .int) cX5_push B5_push_0 = true := am_vt (tl := B5_push_42) 24 42 (by decide +kernel) rfl rfl vB5_push_42
def B5_pop_80 : List am_I := (80, .istore 5, 0, 0, .null, []) :: (82, .aload_n 0, 0, 0, .null, []) :: (83, .getfield 26, 5, 5, .null, []) :: (86, .iload 4, 0, 0, .null, []) :: (88, .iconst 0, 0, 0, .int 0, []) :: (89, .iastore, 0, 0, .null, []) :: (90, .aload_n 0, 0, 0, .null, []) :: (91, .getfield 29, 5, 6, .null, []) :: (94, .iload_n 3, 0, 0, .null, []) :: (95, .laload, 0, 0, .null, []) :: (96, .l2i, 0, 0, .null, []) :: (97, .ireturn, 0, 0, .null, []) :: []
def B5_pop_45 : List am_I := (45, .aload_n 0, 0, 0, .null, []) :: (46, .getfield 29, 5, 6, .null, []) :: (49, .iload_n 3, 0, 0, .null, []) :: (50, .dup2, 0, 0, .null, []) :: (51, .laload, 0, 0, .null, []) :: (52, .lconst 1, 0, 0, .long 1, []) :: (53, .lsub, 0, 0, .null, []) :: (54, .lastore, 0, 0, .null, []) :: (55, .bipush 8, 0, 0, .int 8, []) :: (57, .iload_n 3, 0, 0, .null, []) :: (58, .imul, 0, 0, .null, []) :: (59, .aload_n 0, 0, 0, .null, []) :: (60, .getfield 29, 5, 6, .null, []) :: (63, .iload_n 3, 0, 0, .null, []) :: (64, .laload, 0, 0, .null, []) :: (65, .l2i, 0, 0, .null, []) :: (66, .iadd, 0, 0, .null, []) :: (67, .istore 4, 0, 0, .null, []) :: (69, .aload_n 0, 0, 0, .null, []) :: (70, .aload_n 0, 0, 0, .null, []) :: (71, .getfield 26, 5, 5, .null, []) :: (74, .iload 4, 0, 0, .null, []) :: (76, .iaload, 0, 0, .null, []) :: (77, .invokevirtual 121, 125, 1, .ref 5, []) :: B5_pop_80
def B5_pop_33 : List am_I := (33, .aload_n 0, 0, 0, .null, []) :: (34, .getfield 100, 5, 12, .null, []) :: (37, .bipush 24, 0, 0, .int 24, []) :: (39, .if_icmp .ne 6, 45, 0, .null, []) :: (42, .bipush (-2), 0, 0, .int (-2), []) :: (44, .ireturn, 0, 0, .null, []) :: B5_pop_45
def B5_pop_31 : List am_I := (31, .iconst (-1), 0, 0, .int (-1), []) :: (32, .ireturn, 0, 0, .null, []) :: B5_pop_33
def B5_pop_0 : List am_I := (0, .aload_n 0, 0, 0, .null, []) :: (1, .iload_n 1, 0, 0, .null, []) :: (2, .iload_n 2, 0, 0, .null, []) :: (3, .invokevirtual 141, 123, 2, .ref 5, []) :: (6, .istore_n 3, 0, 0, .null, []) :: (7, .iload_n 3, 0, 0, .null, []) :: (8, .ifCond .eq 23, 31, 0, .null, []) :: (11, .aload_n 0, 0, 0, .null, []) :: (12, .iload_n 3, 0, 0, .null, []) :: (13, .invokevirtual 79, 118, 1, .ref 5, []) :: (16, .iconst 5, 0, 0, .int 5, []) :: (17, .if_icmp .ne 14, 31, 0, .null, []) :: (20, .aload_n 0, 0, 0, .null, []) :: (21, .getfield 29, 5, 6, .null, []) :: (24, .iload_n 3, 0, 0, .null, []) :: (25, .laload, 0, 0, .null, []) :: (26, .lconst 0, 0, 0, .long 0, []) :: (27, .lcmp, 0, 0, .null, []) :: (28, .ifCond .ne 5, 33, 0, .null, []) :: B5_pop_31
set_option maxRecDepth 20000 in
theorem vB5_pop_80 : am_vl 5 false (some .int) cX5_pop B5_pop_80 = true := am_vt (tl := []) 12 0 (by decide +kernel) rfl rfl rfl
set_option maxRecDepth 20000 in
theorem vB5_pop_45 : am_vl 5 false (some .int) cX5_pop B5_pop_45 = true := am_vt (tl := B5_pop_80) 24 80 (by decide +kernel) rfl rfl vB5_pop_80
set_option maxRecDepth 20000 in
theorem vB5_pop_33 : am_vl 5 false (some .int) cX5_pop B5_pop_33 = true := am_vt (tl := B5_pop_45) 6 45 (by decide +kernel) rfl rfl vB5_pop_45
set_option maxRecDepth 20000 in
theorem vB5_pop_31 : am_vl 5 false (some .int) cX5_pop B5_pop_31 = true := am_vt (tl := B5_pop_33) 2 33 (by decide +kernel) rfl rfl vB5_pop_33
set_option maxRecDepth 20000 in
theorem vB5_pop_0 : am_vl 5 false (some .int) cX5_pop B5_pop_0 = true := am_vt (tl := B5_pop_31) 19 31 (by decide +kernel) rfl rfl vB5_pop_31
def B5_enter_109 : List am_I := (109, .aload_n 0, 0, 0, .null, []) :: (110, .getfield 45, 5, 13, .null, []) :: (113, .ireturn, 0, 0, .null, []) :: []
def B5_enter_102 : List am_I := (102, .iastore, 0, 0, .null, []) :: (103, .iinc 2 1, 0, 0, .int 1, []) :: (106, .goto (-39), 67, 0, .null, []) :: B5_enter_109
def B5_enter_101 : List am_I := (101, .iconst 0, 0, 0, .int 0, []) :: B5_enter_102
def B5_enter_67 : List am_I := (67, .iload_n 2, 0, 0, .null, []) :: (68, .bipush 8, 0, 0, .int 8, []) :: (70, .if_icmp .ge 39, 109, 0, .null, []) :: (73, .aload_n 0, 0, 0, .null, []) :: (74, .getfield 39, 5, 10, .null, []) :: (77, .aload_n 0, 0, 0, .null, []) :: (78, .iload_n 2, 0, 0, .null, []) :: (79, .invokevirtual 104, 122, 1, .ref 5, []) :: (82, .iload_n 2, 0, 0, .null, []) :: (83, .iload_n 1, 0, 0, .null, []) :: (84, .if_icmp .ge 17, 101, 0, .null, []) :: (87, .aload_n 0, 0, 0, .null, []) :: (88, .getfield 36, 5, 9, .null, []) :: (91, .aload_n 0, 0, 0, .null, []) :: (92, .getfield 100, 5, 12, .null, []) :: (95, .iload_n 2, 0, 0, .null, []) :: (96, .iadd, 0, 0, .null, []) :: (97, .iaload, 0, 0, .null, []) :: (98, .goto 4, 102, 0, .null, []) :: B5_enter_101
def B5_enter_32 : List am_I := (32, .aload_n 0, 0, 0, .null, []) :: (33, .dup, 0, 0, .null, []) :: (34, .getfield 100, 5, 12, .null, []) :: (37, .iload_n 1, 0, 0, .null, []) :: (38, .isub, 0, 0, .null, []) :: (39, .putfield 100, 5, 12, .null, []) :: (42, .aload_n 0, 0, 0, .null, []) :: (43, .dup, 0, 0, .null, []) :: (44, .getfield 45, 5, 13, .null, []) :: (47, .iconst 1, 0, 0, .int 1, []) :: (48, .iadd, 0, 0, .null, []) :: (49, .putfield 45, 5, 13, .null, []) :: (52, .aload_n 0, 0, 0, .null, []) :: (53, .getfield 42, 5, 11, .null, []) :: (56, .aload_n 0, 0, 0, .null, []) :: (57, .getfield 45, 5, 13, .null, []) :: (60, .aload_n 0, 0, 0, .null, []) :: (61, .getfield 100, 5, 12, .null, []) :: (64, .iastore, 0, 0, .null, []) :: (65, .iconst 0, 0, 0, .int 0, []) :: (66, .istore_n 2, 0, 0, .null, []) :: B5_enter_67
def B5_enter_20 : List am_I := (20, .aload_n 0, 0, 0, .null, []) :: (21, .getfield 45, 5, 13, .null, []) :: (24, .bipush 12, 0, 0, .int 12, []) :: (26, .if_icmp .ne 6, 32, 0, .null, []) :: (29, .bipush (-2), 0, 0, .int (-2), []) :: (31, .ireturn, 0, 0, .null, []) :: B5_enter_32
def B5_enter_18 : List am_I := (18, .iconst (-1), 0, 0, .int (-1), []) :: (19, .ireturn, 0, 0, .null, []) :: B5_enter_20
def B5_enter_0 : List am_I := (0, .iload_n 1, 0, 0, .null, []) :: (1, .iconst 0, 0, 0, .int 0, []) :: (2, .bipush 8, 0, 0, .int 8, []) :: (4, .invokestatic 51, 105, 3, .int 0, []) :: (7, .ifCond .eq 11, 18, 0, .null, []) :: (10, .aload_n 0, 0, 0, .null, []) :: (11, .invokevirtual 127, 120, 0, .ref 5, []) :: (14, .iload_n 1, 0, 0, .null, []) :: (15, .if_icmp .ge 5, 20, 0, .null, []) :: B5_enter_18
set_option maxRecDepth 20000 in
theorem vB5_enter_109 : am_vl 5 false (some .int) cX5_enter B5_enter_109 = true := am_vt (tl := []) 3 0 (by decide +kernel) rfl rfl rfl
set_option maxRecDepth 20000 in
theorem vB5_enter_102 : am_vl 5 false (some .int) cX5_enter B5_enter_102 = true := am_vt (tl := B5_enter_109) 3 109 (by decide +kernel) rfl rfl vB5_enter_109
set_option maxRecDepth 20000 in
theorem vB5_enter_101 : am_vl 5 false (some .int) cX5_enter B5_enter_101 = true := am_vt (tl := B5_enter_102) 1 102 (by decide +kernel) rfl rfl vB5_enter_102
set_option maxRecDepth 20000 in
theorem vB5_enter_67 : am_vl 5 false (some .int) cX5_enter B5_enter_67 = true := am_vt (tl := B5_enter_101) 19 101 (by decide +kernel) rfl rfl vB5_enter_101
set_option maxRecDepth 20000 in
theorem vB5_enter_32 : am_vl 5 false (some .int) cX5_enter B5_enter_32 = true := am_vt (tl := B5_enter_67) 21 67 (by decide +kernel) rfl rfl vB5_enter_67
set_option maxRecDepth 20000 in
theorem vB5_enter_20 : am_vl 5 false (some .int) cX5_enter B5_enter_20 = true := am_vt (tl := B5_enter_32) 6 32 (by decide +kernel) rfl rfl vB5_enter_32
set_option maxRecDepth 20000 in
theorem vB5_enter_18 : am_vl 5 false (some .int) cX5_enter B5_enter_18 = true := am_vt (tl := B5_enter_20) 2 20 (by decide +kernel) rfl rfl vB5_enter_20
set_option maxRecDepth 20000 in
theorem vB5_enter_0 : am_vl 5 false (some .int) cX5_enter B5_enter_0 = true := am_vt (tl := B5_enter_18) 9 18 (by decide +kernel) rfl rfl vB5_enter_18
def B5_empty_84 : List am_I := (84, .return_, 0, 0, .null, []) :: []
def B5_empty_67 : List am_I := (67, .aload_n 0, 0, 0, .null, []) :: (68, .getfield 39, 5, 10, .null, []) :: (71, .aload_n 0, 0, 0, .null, []) :: (72, .iload_n 1, 0, 0, .null, []) :: (73, .invokevirtual 104, 122, 1, .ref 5, []) :: (76, .iconst 0, 0, 0, .int 0, []) :: (77, .iastore, 0, 0, .null, []) :: (78, .iinc 1 (-1), 0, 0, .int (-1), []) :: (81, .goto (-45), 36, 0, .null, []) :: B5_empty_84
def B5_empty_36 : List am_I := (36, .iload_n 1, 0, 0, .null, []) :: (37, .ifCond .lt 47, 84, 0, .null, []) :: (40, .aload_n 0, 0, 0, .null, []) :: (41, .getfield 39, 5, 10, .null, []) :: (44, .aload_n 0, 0, 0, .null, []) :: (45, .iload_n 1, 0, 0, .null, []) :: (46, .invokevirtual 104, 122, 1, .ref 5, []) :: (49, .iaload, 0, 0, .null, []) :: (50, .ifCond .eq 17, 67, 0, .null, []) :: (53, .aload_n 0, 0, 0, .null, []) :: (54, .aload_n 0, 0, 0, .null, []) :: (55, .getfield 39, 5, 10, .null, []) :: (58, .aload_n 0, 0, 0, .null, []) :: (59, .iload_n 1, 0, 0, .null, []) :: (60, .invokevirtual 104, 122, 1, .ref 5, []) :: (63, .iaload, 0, 0, .null, []) :: (64, .invokevirtual 88, 119, 1, .ref 5, []) :: B5_empty_67
def B5_empty_33 : List am_I := (33, .bipush 7, 0, 0, .int 7, []) :: (35, .istore_n 1, 0, 0, .null, []) :: B5_empty_36
def B5_empty_0 : List am_I := (0, .aload_n 0, 0, 0, .null, []) :: (1, .invokevirtual 127, 120, 0, .ref 5, []) :: (4, .ifCond .le 29, 33, 0, .null, []) :: (7, .aload_n 0, 0, 0, .null, []) :: (8, .dup, 0, 0, .null, []) :: (9, .getfield 100, 5, 12, .null, []) :: (12, .iconst 1, 0, 0, .int 1, []) :: (13, .isub, 0, 0, .null, []) :: (14, .putfield 100, 5, 12, .null, []) :: (17, .aload_n 0, 0, 0, .null, []) :: (18, .aload_n 0, 0, 0, .null, []) :: (19, .getfield 36, 5, 9, .null, []) :: (22, .aload_n 0, 0, 0, .null, []) :: (23, .getfield 100, 5, 12, .null, []) :: (26, .iaload, 0, 0, .null, []) :: (27, .invokevirtual 88, 119, 1, .ref 5, []) :: (30, .goto (-30), 0, 0, .null, []) :: B5_empty_33
set_option maxRecDepth 20000 in
theorem vB5_empty_84 : am_vl 5 false none cX5_empty B5_empty_84 = true := am_vt (tl := []) 1 0 (by decide +kernel) rfl rfl rfl
set_option maxRecDepth 20000 in
theorem vB5_empty_67 : am_vl 5 false none cX5_empty B5_empty_67 = true := am_vt (tl := B5_empty_84) 9 84 (by decide +kernel) rfl rfl vB5_empty_84
set_option maxRecDepth 20000 in
theorem vB5_empty_36 : am_vl 5 false none cX5_empty B5_empty_36 = true := am_vt (tl := B5_empty_67) 17 67 (by decide +kernel) rfl rfl vB5_empty_67
set_option maxRecDepth 20000 in
theorem vB5_empty_33 : am_vl 5 false none cX5_empty B5_empty_33 = true := am_vt (tl := B5_empty_36) 2 36 (by decide +kernel) rfl rfl vB5_empty_36
set_option maxRecDepth 20000 in
theorem vB5_empty_0 : am_vl 5 false none cX5_empty B5_empty_0 = true := am_vt (tl := B5_empty_33) 17 33 (by decide +kernel) rfl rfl vB5_empty_33
def B5_leave_75 : List am_I := (75, .istore_n 3, 0, 0, .null, []) :: (76, .aload_n 0, 0, 0, .null, []) :: (77, .getfield 45, 5, 13, .null, []) :: (80, .ireturn, 0, 0, .null, []) :: []
def B5_leave_70 : List am_I := (70, .aload_n 0, 0, 0, .null, []) :: (71, .iload_n 2, 0, 0, .null, []) :: (72, .invokevirtual 121, 125, 1, .ref 5, []) :: B5_leave_75
def B5_leave_48 : List am_I := (48, .aload_n 0, 0, 0, .null, []) :: (49, .invokevirtual 149, 141, 0, .ref 5, []) :: (52, .aload_n 0, 0, 0, .null, []) :: (53, .dup, 0, 0, .null, []) :: (54, .getfield 45, 5, 13, .null, []) :: (57, .iconst 1, 0, 0, .int 1, []) :: (58, .isub, 0, 0, .null, []) :: (59, .putfield 45, 5, 13, .null, []) :: (62, .iload_n 2, 0, 0, .null, []) :: (63, .ifCond .ne 7, 70, 0, .null, []) :: (66, .iconst 0, 0, 0, .int 0, []) :: (67, .goto 8, 75, 0, .null, []) :: B5_leave_70
def B5_leave_22 : List am_I := (22, .iconst 0, 0, 0, .int 0, []) :: (23, .istore_n 2, 0, 0, .null, []) :: (24, .iload_n 1, 0, 0, .null, []) :: (25, .ifCond .eq 23, 48, 0, .null, []) :: (28, .aload_n 0, 0, 0, .null, []) :: (29, .dup, 0, 0, .null, []) :: (30, .getfield 100, 5, 12, .null, []) :: (33, .iconst 1, 0, 0, .int 1, []) :: (34, .isub, 0, 0, .null, []) :: (35, .putfield 100, 5, 12, .null, []) :: (38, .aload_n 0, 0, 0, .null, []) :: (39, .getfield 36, 5, 9, .null, []) :: (42, .aload_n 0, 0, 0, .null, []) :: (43, .getfield 100, 5, 12, .null, []) :: (46, .iaload, 0, 0, .null, []) :: (47, .istore_n 2, 0, 0, .null, []) :: B5_leave_48
def B5_leave_20 : List am_I := (20, .iconst (-1), 0, 0, .int (-1), []) :: (21, .ireturn, 0, 0, .null, []) :: B5_leave_22
def B5_leave_0 : List am_I := (0, .aload_n 0, 0, 0, .null, []) :: (1, .getfield 45, 5, 13, .null, []) :: (4, .iconst 1, 0, 0, .int 1, []) :: (5, .if_icmp .eq 15, 20, 0, .null, []) :: (8, .iload_n 1, 0, 0, .null, []) :: (9, .ifCond .eq 13, 22, 0, .null, []) :: (12, .aload_n 0, 0, 0, .null, []) :: (13, .invokevirtual 127, 120, 0, .ref 5, []) :: (16, .iconst 1, 0, 0, .int 1, []) :: (17, .if_icmp .ge 5, 22, 0, .null, []) :: B5_leave_20
set_option maxRecDepth 20000 in
theorem vB5_leave_75 : am_vl 5 false (some .int) cX5_leave B5_leave_75 = true := am_vt (tl := []) 4 0 (by decide +kernel) rfl rfl rfl
set_option maxRecDepth 20000 in
theorem vB5_leave_70 : am_vl 5 false (some .int) cX5_leave B5_leave_70 = true := am_vt (tl := B5_leave_75) 3 75 (by decide +kernel) rfl rfl vB5_leave_75
set_option maxRecDepth 20000 in
theorem vB5_leave_48 : am_vl 5 false (some .int) cX5_leave B5_leave_48 = true := am_vt (tl := B5_leave_70) 12 70 (by decide +kernel) rfl rfl vB5_leave_70
set_option maxRecDepth 20000 in
theorem vB5_leave_22 : am_vl 5 false (some .int) cX5_leave B5_leave_22 = true := am_vt (tl := B5_leave_48) 16 48 (by decide +kernel) rfl rfl vB5_leave_48
set_option maxRecDepth 20000 in
theorem vB5_leave_20 : am_vl 5 false (some .int) cX5_leave B5_leave_20 = true := am_vt (tl := B5_leave_22) 2 22 (by decide +kernel) rfl rfl vB5_leave_22
set_option maxRecDepth 20000 in
theorem vB5_leave_0 : am_vl 5 false (some .int) cX5_leave B5_leave_0 = true := am_vt (tl := B5_leave_20) 10 20 (by decide +kernel) rfl rfl vB5_leave_20
def B5_fail_34 : List am_I := (34, .iload_n 1, 0, 0, .null, []) :: (35, .ireturn, 0, 0, .null, []) :: []
def B5_fail_9 : List am_I := (9, .aload_n 0, 0, 0, .null, []) :: (10, .getfield 45, 5, 13, .null, []) :: (13, .iconst 1, 0, 0, .int 1, []) :: (14, .if_icmp .le 20, 34, 0, .null, []) :: (17, .aload_n 0, 0, 0, .null, []) :: (18, .dup, 0, 0, .null, []) :: (19, .getfield 45, 5, 13, .null, []) :: (22, .iconst 1, 0, 0, .int 1, []) :: (23, .isub, 0, 0, .null, []) :: (24, .putfield 45, 5, 13, .null, []) :: (27, .aload_n 0, 0, 0, .null, []) :: (28, .invokevirtual 149, 141, 0, .ref 5, []) :: (31, .goto (-22), 9, 0, .null, []) :: B5_fail_34
def B5_fail_0 : List am_I := (0, .aload_n 0, 0, 0, .null, []) :: (1, .getfield 45, 5, 13, .null, []) :: (4, .istore_n 1, 0, 0, .null, []) :: (5, .aload_n 0, 0, 0, .null, []) :: (6, .invokevirtual 149, 141, 0, .ref 5, []) :: B5_fail_9
set_option maxRecDepth 20000 in
theorem vB5_fail_34 : am_vl 5 false (some .int) cX5_fail B5_fail_34 = true := am_vt (tl := []) 2 0 (by decide +kernel) rfl rfl rfl
set_option maxRecDepth 20000 in
theorem vB5_fail_9 : am_vl 5 false (some .int) cX5_fail B5_fail_9 = true := am_vt (tl := B5_fail_34) 13 34 (by decide +kernel) rfl rfl vB5_fail_34
set_option maxRecDepth 20000 in
theorem vB5_fail_0 : am_vl 5 false (some .int) cX5_fail B5_fail_0 = true := am_vt (tl := B5_fail_9) 5 9 (by decide +kernel) rfl rfl vB5_fail_9
def B5_shape_21 : List am_I := (21, .ireturn, 0, 0, .null, []) :: []
def B5_shape_15 : List am_I := (15, .aload_n 0, 0, 0, .null, []) :: (16, .getfield 23, 5, 4, .null, []) :: (19, .iload_n 3, 0, 0, .null, []) :: (20, .iaload, 0, 0, .null, []) :: B5_shape_21
def B5_shape_0 : List am_I := (0, .aload_n 0, 0, 0, .null, []) :: (1, .iload_n 1, 0, 0, .null, []) :: (2, .iload_n 2, 0, 0, .null, []) :: (3, .invokevirtual 141, 123, 2, .ref 5, []) :: (6, .istore_n 3, 0, 0, .null, []) :: (7, .iload_n 3, 0, 0, .null, []) :: (8, .ifCond .ne 7, 15, 0, .null, []) :: (11, .iconst (-1), 0, 0, .int (-1), []) :: (12, .goto 9, 21, 0, .null, []) :: B5_shape_15
set_option maxRecDepth 20000 in
theorem vB5_shape_21 : am_vl 5 false (some .int) cX5_shape B5_shape_21 = true := am_vt (tl := []) 1 0 (by decide +kernel) rfl rfl rfl
set_option maxRecDepth 20000 in
theorem vB5_shape_15 : am_vl 5 false (some .int) cX5_shape B5_shape_15 = true := am_vt (tl := B5_shape_21) 4 21 (by decide +kernel) rfl rfl vB5_shape_21
set_option maxRecDepth 20000 in
theorem vB5_shape_0 : am_vl 5 false (some .int) cX5_shape B5_shape_0 = true := am_vt (tl := B5_shape_15) 9 15 (by decide +kernel) rfl rfl vB5_shape_15
def B5_look_29 : List am_I := (29, .lreturn, 0, 0, .null, []) :: []
def B5_look_28 : List am_I := (28, .lconst 0, 0, 0, .long 0, []) :: B5_look_29
def B5_look_0 : List am_I := (0, .aload_n 0, 0, 0, .null, []) :: (1, .iload_n 1, 0, 0, .null, []) :: (2, .iload_n 2, 0, 0, .null, []) :: (3, .invokevirtual 141, 123, 2, .ref 5, []) :: (6, .istore_n 3, 0, 0, .null, []) :: (7, .iload_n 3, 0, 0, .null, []) :: (8, .ifCond .eq 20, 28, 0, .null, []) :: (11, .aload_n 0, 0, 0, .null, []) :: (12, .iload_n 3, 0, 0, .null, []) :: (13, .invokevirtual 79, 118, 1, .ref 5, []) :: (16, .ifCond .ne 12, 28, 0, .null, []) :: (19, .aload_n 0, 0, 0, .null, []) :: (20, .getfield 29, 5, 6, .null, []) :: (23, .iload_n 3, 0, 0, .null, []) :: (24, .laload, 0, 0, .null, []) :: (25, .goto 4, 29, 0, .null, []) :: B5_look_28
set_option maxRecDepth 20000 in
theorem vB5_look_29 : am_vl 5 false (some .long) cX5_look B5_look_29 = true := am_vt (tl := []) 1 0 (by decide +kernel) rfl rfl rfl
set_option maxRecDepth 20000 in
theorem vB5_look_28 : am_vl 5 false (some .long) cX5_look B5_look_28 = true := am_vt (tl := B5_look_29) 1 29 (by decide +kernel) rfl rfl vB5_look_29
set_option maxRecDepth 20000 in
theorem vB5_look_0 : am_vl 5 false (some .long) cX5_look B5_look_0 = true := am_vt (tl := B5_look_28) 16 28 (by decide +kernel) rfl rfl vB5_look_28
def B5_state_40 : List am_I := (40, .ireturn, 0, 0, .null, []) :: []
def B5_state_39 : List am_I := (39, .iconst (-1), 0, 0, .int (-1), []) :: B5_state_40
def B5_state_29 : List am_I := (29, .aload_n 0, 0, 0, .null, []) :: (30, .getfield 29, 5, 6, .null, []) :: (33, .iload_n 3, 0, 0, .null, []) :: (34, .laload, 0, 0, .null, []) :: (35, .l2i, 0, 0, .null, []) :: (36, .goto 4, 40, 0, .null, []) :: B5_state_39
def B5_state_0 : List am_I := (0, .aload_n 0, 0, 0, .null, []) :: (1, .iload_n 1, 0, 0, .null, []) :: (2, .iload_n 2, 0, 0, .null, []) :: (3, .invokevirtual 141, 123, 2, .ref 5, []) :: (6, .istore_n 3, 0, 0, .null, []) :: (7, .iload_n 3, 0, 0, .null, []) :: (8, .ifCond .eq 31, 39, 0, .null, []) :: (11, .aload_n 0, 0, 0, .null, []) :: (12, .iload_n 3, 0, 0, .null, []) :: (13, .invokevirtual 79, 118, 1, .ref 5, []) :: (16, .iconst 3, 0, 0, .int 3, []) :: (17, .if_icmp .eq 12, 29, 0, .null, []) :: (20, .aload_n 0, 0, 0, .null, []) :: (21, .iload_n 3, 0, 0, .null, []) :: (22, .invokevirtual 79, 118, 1, .ref 5, []) :: (25, .iconst 5, 0, 0, .int 5, []) :: (26, .if_icmp .ne 13, 39, 0, .null, []) :: B5_state_29
set_option maxRecDepth 20000 in
theorem vB5_state_40 : am_vl 5 false (some .int) cX5_state B5_state_40 = true := am_vt (tl := []) 1 0 (by decide +kernel) rfl rfl rfl
set_option maxRecDepth 20000 in
theorem vB5_state_39 : am_vl 5 false (some .int) cX5_state B5_state_39 = true := am_vt (tl := B5_state_40) 1 40 (by decide +kernel) rfl rfl vB5_state_40
set_option maxRecDepth 20000 in
theorem vB5_state_29 : am_vl 5 false (some .int) cX5_state B5_state_29 = true := am_vt (tl := B5_state_39) 6 39 (by decide +kernel) rfl rfl vB5_state_39
set_option maxRecDepth 20000 in
theorem vB5_state_0 : am_vl 5 false (some .int) cX5_state B5_state_0 = true := am_vt (tl := B5_state_29) 17 29 (by decide +kernel) rfl rfl vB5_state_29
def B5_out_24 : List am_I := (24, .lreturn, 0, 0, .null, []) :: []
def B5_out_23 : List am_I := (23, .lconst 0, 0, 0, .long 0, []) :: B5_out_24
def B5_out_0 : List am_I := (0, .iload_n 1, 0, 0, .null, []) :: (1, .iconst 0, 0, 0, .int 0, []) :: (2, .aload_n 0, 0, 0, .null, []) :: (3, .getfield 82, 5, 15, .null, []) :: (6, .iconst 1, 0, 0, .int 1, []) :: (7, .isub, 0, 0, .null, []) :: (8, .invokestatic 51, 105, 3, .int 0, []) :: (11, .ifCond .eq 12, 23, 0, .null, []) :: (14, .aload_n 0, 0, 0, .null, []) :: (15, .getfield 48, 5, 14, .null, []) :: (18, .iload_n 1, 0, 0, .null, []) :: (19, .laload, 0, 0, .null, []) :: (20, .goto 4, 24, 0, .null, []) :: B5_out_23
set_option maxRecDepth 20000 in
theorem vB5_out_24 : am_vl 5 false (some .long) cX5_out B5_out_24 = true := am_vt (tl := []) 1 0 (by decide +kernel) rfl rfl rfl
set_option maxRecDepth 20000 in
theorem vB5_out_23 : am_vl 5 false (some .long) cX5_out B5_out_23 = true := am_vt (tl := B5_out_24) 1 24 (by decide +kernel) rfl rfl vB5_out_24
set_option maxRecDepth 20000 in
theorem vB5_out_0 : am_vl 5 false (some .long) cX5_out B5_out_0 = true := am_vt (tl := B5_out_23) 13 23 (by decide +kernel) rfl rfl vB5_out_23
def B5_count_141 : List am_I := (141, .iconst (-1), 0, 0, .int (-1), []) :: (142, .ireturn, 0, 0, .null, []) :: []
def B5_count_136 : List am_I := (136, .aload_n 0, 0, 0, .null, []) :: (137, .getfield 82, 5, 15, .null, []) :: (140, .ireturn, 0, 0, .null, []) :: B5_count_141
def B5_count_131 : List am_I := (131, .aload_n 0, 0, 0, .null, []) :: (132, .getfield 85, 5, 19, .null, []) :: (135, .ireturn, 0, 0, .null, []) :: B5_count_136
def B5_count_126 : List am_I := (126, .aload_n 0, 0, 0, .null, []) :: (127, .getfield 134, 5, 18, .null, []) :: (130, .ireturn, 0, 0, .null, []) :: B5_count_131
def B5_count_121 : List am_I := (121, .aload_n 0, 0, 0, .null, []) :: (122, .getfield 94, 5, 17, .null, []) :: (125, .ireturn, 0, 0, .null, []) :: B5_count_126
def B5_count_116 : List am_I := (116, .aload_n 0, 0, 0, .null, []) :: (117, .getfield 91, 5, 16, .null, []) :: (120, .ireturn, 0, 0, .null, []) :: B5_count_121
def B5_count_114 : List am_I := (114, .iload_n 2, 0, 0, .null, []) :: (115, .ireturn, 0, 0, .null, []) :: B5_count_116
def B5_count_106 : List am_I := (106, .iadd, 0, 0, .null, []) :: (107, .istore_n 2, 0, 0, .null, []) :: (108, .iinc 3 1, 0, 0, .int 1, []) :: (111, .goto (-31), 80, 0, .null, []) :: B5_count_114
def B5_count_105 : List am_I := (105, .iconst 0, 0, 0, .int 0, []) :: B5_count_106
def B5_count_80 : List am_I := (80, .iload_n 3, 0, 0, .null, []) :: (81, .bipush 8, 0, 0, .int 8, []) :: (83, .aload_n 0, 0, 0, .null, []) :: (84, .getfield 45, 5, 13, .null, []) :: (87, .imul, 0, 0, .null, []) :: (88, .if_icmp .ge 26, 114, 0, .null, []) :: (91, .iload_n 2, 0, 0, .null, []) :: (92, .aload_n 0, 0, 0, .null, []) :: (93, .getfield 39, 5, 10, .null, []) :: (96, .iload_n 3, 0, 0, .null, []) :: (97, .iaload, 0, 0, .null, []) :: (98, .ifCond .eq 7, 105, 0, .null, []) :: (101, .iconst 1, 0, 0, .int 1, []) :: (102, .goto 4, 106, 0, .null, []) :: B5_count_105
def B5_count_76 : List am_I := (76, .iconst 0, 0, 0, .int 0, []) :: (77, .istore_n 2, 0, 0, .null, []) :: (78, .iconst 0, 0, 0, .int 0, []) :: (79, .istore_n 3, 0, 0, .null, []) :: B5_count_80
def B5_count_71 : List am_I := (71, .aload_n 0, 0, 0, .null, []) :: (72, .invokevirtual 127, 120, 0, .ref 5, []) :: (75, .ireturn, 0, 0, .null, []) :: B5_count_76
def B5_count_66 : List am_I := (66, .aload_n 0, 0, 0, .null, []) :: (67, .getfield 100, 5, 12, .null, []) :: (70, .ireturn, 0, 0, .null, []) :: B5_count_71
def B5_count_61 : List am_I := (61, .aload_n 0, 0, 0, .null, []) :: (62, .getfield 45, 5, 13, .null, []) :: (65, .ireturn, 0, 0, .null, []) :: B5_count_66
def B5_count_56 : List am_I := (56, .aload_n 0, 0, 0, .null, []) :: (57, .getfield 19, 5, 3, .null, []) :: (60, .ireturn, 0, 0, .null, []) :: B5_count_61
def B5_count_0 : List am_I := (0, .iload_n 1, 0, 0, .null, []) :: (1, .tableswitch 140 0 9 #[55, 60, 65, 70, 75, 115, 120, 125, 130, 135], 141, 0, .null, [(0, 56), (1, 61), (2, 66), (3, 71), (4, 76), (5, 116), (6, 121), (7, 126), (8, 131), (9, 136)]) :: B5_count_56
set_option maxRecDepth 20000 in
theorem vB5_count_141 : am_vl 5 false (some .int) cX5_count B5_count_141 = true := am_vt (tl := []) 2 0 (by decide +kernel) rfl rfl rfl
set_option maxRecDepth 20000 in
theorem vB5_count_136 : am_vl 5 false (some .int) cX5_count B5_count_136 = true := am_vt (tl := B5_count_141) 3 141 (by decide +kernel) rfl rfl vB5_count_141
set_option maxRecDepth 20000 in
theorem vB5_count_131 : am_vl 5 false (some .int) cX5_count B5_count_131 = true := am_vt (tl := B5_count_136) 3 136 (by decide +kernel) rfl rfl vB5_count_136
set_option maxRecDepth 20000 in
theorem vB5_count_126 : am_vl 5 false (some .int) cX5_count B5_count_126 = true := am_vt (tl := B5_count_131) 3 131 (by decide +kernel) rfl rfl vB5_count_131
set_option maxRecDepth 20000 in
theorem vB5_count_121 : am_vl 5 false (some .int) cX5_count B5_count_121 = true := am_vt (tl := B5_count_126) 3 126 (by decide +kernel) rfl rfl vB5_count_126
set_option maxRecDepth 20000 in
theorem vB5_count_116 : am_vl 5 false (some .int) cX5_count B5_count_116 = true := am_vt (tl := B5_count_121) 3 121 (by decide +kernel) rfl rfl vB5_count_121
set_option maxRecDepth 20000 in
theorem vB5_count_114 : am_vl 5 false (some .int) cX5_count B5_count_114 = true := am_vt (tl := B5_count_116) 2 116 (by decide +kernel) rfl rfl vB5_count_116
set_option maxRecDepth 20000 in
theorem vB5_count_106 : am_vl 5 false (some .int) cX5_count B5_count_106 = true := am_vt (tl := B5_count_114) 4 114 (by decide +kernel) rfl rfl vB5_count_114
set_option maxRecDepth 20000 in
theorem vB5_count_105 : am_vl 5 false (some .int) cX5_count B5_count_105 = true := am_vt (tl := B5_count_106) 1 106 (by decide +kernel) rfl rfl vB5_count_106
set_option maxRecDepth 20000 in
theorem vB5_count_80 : am_vl 5 false (some .int) cX5_count B5_count_80 = true := am_vt (tl := B5_count_105) 14 105 (by decide +kernel) rfl rfl vB5_count_105
set_option maxRecDepth 20000 in
theorem vB5_count_76 : am_vl 5 false (some .int) cX5_count B5_count_76 = true := am_vt (tl := B5_count_80) 4 80 (by decide +kernel) rfl rfl vB5_count_80
set_option maxRecDepth 20000 in
theorem vB5_count_71 : am_vl 5 false (some .int) cX5_count B5_count_71 = true := am_vt (tl := B5_count_76) 3 76 (by decide +kernel) rfl rfl vB5_count_76
set_option maxRecDepth 20000 in
theorem vB5_count_66 : am_vl 5 false (some .int) cX5_count B5_count_66 = true := am_vt (tl := B5_count_71) 3 71 (by decide +kernel) rfl rfl vB5_count_71
set_option maxRecDepth 20000 in
theorem vB5_count_61 : am_vl 5 false (some .int) cX5_count B5_count_61 = true := am_vt (tl := B5_count_66) 3 66 (by decide +kernel) rfl rfl vB5_count_66
set_option maxRecDepth 20000 in
theorem vB5_count_56 : am_vl 5 false (some .int) cX5_count B5_count_56 = true := am_vt (tl := B5_count_61) 3 61 (by decide +kernel) rfl rfl vB5_count_61
set_option maxRecDepth 20000 in
theorem vB5_count_0 : am_vl 5 false (some .int) cX5_count B5_count_0 = true := am_vt (tl := B5_count_56) 2 56 (by decide +kernel) rfl rfl vB5_count_56
