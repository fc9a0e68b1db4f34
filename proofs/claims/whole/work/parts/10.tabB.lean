def B4_init_50 : List am_I := (50, .invokespecial 32, 0, 2, .int 0, []) :: (53, .putfield 35, 4, 3, .null, []) :: (56, .aload_n 0, 0, 0, .null, []) :: (57, .iconst 0, 0, 0, .int 0, []) :: (58, .putfield 39, 4, 4, .null, []) :: (61, .aload_n 0, 0, 0, .null, []) :: (62, .iconst (-1), 0, 0, .int (-1), []) :: (63, .putfield 43, 4, 5, .null, []) :: (66, .return_, 0, 0, .null, []) :: []
def B4_init_0 : List am_I := (0, .aload_n 0, 0, 0, .null, []) :: (1, .invokespecial 3, 0, 0, .null, []) :: (4, .aload_n 0, 0, 0, .null, []) :: (5, .new 9, 3, 0, .null, []) :: (8, .dup, 0, 0, .null, []) :: (9, .invokespecial 11, 47, 0, .int 0, []) :: (12, .putfield 12, 4, 0, .null, []) :: (15, .aload_n 0, 0, 0, .null, []) :: (16, .new 16, 2, 0, .null, []) :: (19, .dup, 0, 0, .null, []) :: (20, .invokespecial 18, 28, 0, .int 1, []) :: (23, .putfield 19, 4, 1, .null, []) :: (26, .aload_n 0, 0, 0, .null, []) :: (27, .new 23, 1, 0, .null, []) :: (30, .dup, 0, 0, .null, []) :: (31, .invokespecial 25, 11, 0, .int 0, []) :: (34, .putfield 26, 4, 2, .null, []) :: (37, .aload_n 0, 0, 0, .null, []) :: (38, .new 30, 0, 0, .null, []) :: (41, .dup, 0, 0, .null, []) :: (42, .aload_n 0, 0, 0, .null, []) :: (43, .getfield 12, 4, 0, .null, []) :: (46, .aload_n 0, 0, 0, .null, []) :: (47, .getfield 19, 4, 1, .null, []) :: B4_init_50
set_option maxRecDepth 20000 in
theorem vB4_init_50 : am_vl 4 true none cX4_init B4_init_50 = true := am_vt (tl := []) 9 0 (by decide +kernel) rfl rfl rfl
set_option maxRecDepth 20000 in
theorem vB4_init_0 : am_vl 4 true none cX4_init B4_init_0 = true := am_vt (tl := B4_init_50) 24 50 (by decide +kernel) rfl rfl vB4_init_50
def B4_record_101 : List am_I := (101, .iload 5, 0, 0, .null, []) :: (103, .iload_n 2, 0, 0, .null, []) :: (104, .iload_n 3, 0, 0, .null, []) :: (105, .iload 4, 0, 0, .null, []) :: (107, .invokevirtual 57, 48, 5, .ref 3, []) :: (110, .ireturn, 0, 0, .null, []) :: []
def B4_record_100 : List am_I := (100, .iconst 1, 0, 0, .int 1, []) :: B4_record_101
def B4_record_59 : List am_I := (59, .aload_n 0, 0, 0, .null, []) :: (60, .getfield 12, 4, 0, .null, []) :: (63, .iload_n 2, 0, 0, .null, []) :: (64, .invokevirtual 53, 54, 1, .ref 3, []) :: (67, .aload_n 0, 0, 0, .null, []) :: (68, .getfield 12, 4, 0, .null, []) :: (71, .iload_n 3, 0, 0, .null, []) :: (72, .invokevirtual 53, 54, 1, .ref 3, []) :: (75, .iadd, 0, 0, .null, []) :: (76, .aload_n 0, 0, 0, .null, []) :: (77, .getfield 12, 4, 0, .null, []) :: (80, .iload 4, 0, 0, .null, []) :: (82, .invokevirtual 53, 54, 1, .ref 3, []) :: (85, .iadd, 0, 0, .null, []) :: (86, .istore 5, 0, 0, .null, []) :: (88, .aload_n 0, 0, 0, .null, []) :: (89, .getfield 12, 4, 0, .null, []) :: (92, .iload_n 1, 0, 0, .null, []) :: (93, .ifCond .eq 7, 100, 0, .null, []) :: (96, .iconst 2, 0, 0, .int 2, []) :: (97, .goto 4, 101, 0, .null, []) :: B4_record_100
def B4_record_49 : List am_I := (49, .iload_n 1, 0, 0, .null, []) :: (50, .ifCond .eq 9, 59, 0, .null, []) :: (53, .iload_n 2, 0, 0, .null, []) :: (54, .ifCond .eq 5, 59, 0, .null, []) :: (57, .iconst (-1), 0, 0, .int (-1), []) :: (58, .ireturn, 0, 0, .null, []) :: B4_record_59
def B4_record_36 : List am_I := (36, .iload_n 3, 0, 0, .null, []) :: (37, .iconst (-1), 0, 0, .int (-1), []) :: (38, .if_icmp .ne 11, 49, 0, .null, []) :: (41, .iload 4, 0, 0, .null, []) :: (43, .iconst (-1), 0, 0, .int (-1), []) :: (44, .if_icmp .eq 5, 49, 0, .null, []) :: (47, .iconst (-1), 0, 0, .int (-1), []) :: (48, .ireturn, 0, 0, .null, []) :: B4_record_49
def B4_record_34 : List am_I := (34, .iconst (-1), 0, 0, .int (-1), []) :: (35, .ireturn, 0, 0, .null, []) :: B4_record_36
def B4_record_0 : List am_I := (0, .aload_n 0, 0, 0, .null, []) :: (1, .getfield 12, 4, 0, .null, []) :: (4, .iload_n 2, 0, 0, .null, []) :: (5, .invokevirtual 46, 51, 1, .ref 3, []) :: (8, .ifCond .eq 26, 34, 0, .null, []) :: (11, .aload_n 0, 0, 0, .null, []) :: (12, .getfield 12, 4, 0, .null, []) :: (15, .iload_n 3, 0, 0, .null, []) :: (16, .invokevirtual 50, 52, 1, .ref 3, []) :: (19, .ifCond .eq 15, 34, 0, .null, []) :: (22, .aload_n 0, 0, 0, .null, []) :: (23, .getfield 12, 4, 0, .null, []) :: (26, .iload 4, 0, 0, .null, []) :: (28, .invokevirtual 50, 52, 1, .ref 3, []) :: (31, .ifCond .ne 5, 36, 0, .null, []) :: B4_record_34
set_option maxRecDepth 20000 in
theorem vB4_record_101 : am_vl 4 false (some .int) cX4_record B4_record_101 = true := am_vt (tl := []) 6 0 (by decide +kernel) rfl rfl rfl
set_option maxRecDepth 20000 in
theorem vB4_record_100 : am_vl 4 false (some .int) cX4_record B4_record_100 = true := am_vt (tl := B4_record_101) 1 101 (by decide +kernel) rfl rfl vB4_record_101
set_option maxRecDepth 20000 in
theorem vB4_record_59 : am_vl 4 false (some .int) cX4_record B4_record_59 = true := am_vt (tl := B4_record_100) 21 100 (by decide +kernel) rfl rfl vB4_record_100
set_option maxRecDepth 20000 in
theorem vB4_record_49 : am_vl 4 false (some .int) cX4_record B4_record_49 = true := am_vt (tl := B4_record_59) 6 59 (by decide +kernel) rfl rfl vB4_record_59
set_option maxRecDepth 20000 in
theorem vB4_record_36 : am_vl 4 false (some .int) cX4_record B4_record_36 = true := am_vt (tl := B4_record_49) 8 49 (by decide +kernel) rfl rfl vB4_record_49
set_option maxRecDepth 20000 in
theorem vB4_record_34 : am_vl 4 false (some .int) cX4_record B4_record_34 = true := am_vt (tl := B4_record_36) 2 36 (by decide +kernel) rfl rfl vB4_record_36
set_option maxRecDepth 20000 in
theorem vB4_record_0 : am_vl 4 false (some .int) cX4_record B4_record_0 = true := am_vt (tl := B4_record_34) 15 34 (by decide +kernel) rfl rfl vB4_record_34
def B4_choice_79 : List am_I := (79, .invokevirtual 57, 48, 5, .ref 3, []) :: (82, .ireturn, 0, 0, .null, []) :: []
def B4_choice_35 : List am_I := (35, .aload_n 0, 0, 0, .null, []) :: (36, .getfield 12, 4, 0, .null, []) :: (39, .iload_n 1, 0, 0, .null, []) :: (40, .invokevirtual 53, 54, 1, .ref 3, []) :: (43, .aload_n 0, 0, 0, .null, []) :: (44, .getfield 12, 4, 0, .null, []) :: (47, .iload_n 2, 0, 0, .null, []) :: (48, .invokevirtual 53, 54, 1, .ref 3, []) :: (51, .aload_n 0, 0, 0, .null, []) :: (52, .getfield 12, 4, 0, .null, []) :: (55, .iload_n 3, 0, 0, .null, []) :: (56, .invokevirtual 53, 54, 1, .ref 3, []) :: (59, .invokestatic 61, 0, 0, .null, []) :: (62, .invokestatic 61, 0, 0, .null, []) :: (65, .istore 4, 0, 0, .null, []) :: (67, .aload_n 0, 0, 0, .null, []) :: (68, .getfield 12, 4, 0, .null, []) :: (71, .iconst 3, 0, 0, .int 3, []) :: (72, .iconst 1, 0, 0, .int 1, []) :: (73, .iload 4, 0, 0, .null, []) :: (75, .iadd, 0, 0, .null, []) :: (76, .iload_n 1, 0, 0, .null, []) :: (77, .iload_n 2, 0, 0, .null, []) :: (78, .iload_n 3, 0, 0, .null, []) :: B4_choice_79
def B4_choice_33 : List am_I := (33, .iconst (-1), 0, 0, .int (-1), []) :: (34, .ireturn, 0, 0, .null, []) :: B4_choice_35
def B4_choice_0 : List am_I := (0, .aload_n 0, 0, 0, .null, []) :: (1, .getfield 12, 4, 0, .null, []) :: (4, .iload_n 1, 0, 0, .null, []) :: (5, .invokevirtual 50, 52, 1, .ref 3, []) :: (8, .ifCond .eq 25, 33, 0, .null, []) :: (11, .aload_n 0, 0, 0, .null, []) :: (12, .getfield 12, 4, 0, .null, []) :: (15, .iload_n 2, 0, 0, .null, []) :: (16, .invokevirtual 50, 52, 1, .ref 3, []) :: (19, .ifCond .eq 14, 33, 0, .null, []) :: (22, .aload_n 0, 0, 0, .null, []) :: (23, .getfield 12, 4, 0, .null, []) :: (26, .iload_n 3, 0, 0, .null, []) :: (27, .invokevirtual 50, 52, 1, .ref 3, []) :: (30, .ifCond .ne 5, 35, 0, .null, []) :: B4_choice_33
set_option maxRecDepth 20000 in
theorem vB4_choice_79 : am_vl 4 false (some .int) cX4_choice B4_choice_79 = true := am_vt (tl := []) 2 0 (by decide +kernel) rfl rfl rfl
set_option maxRecDepth 20000 in
theorem vB4_choice_35 : am_vl 4 false (some .int) cX4_choice B4_choice_35 = true := am_vt (tl := B4_choice_79) 24 79 (by decide +kernel) rfl rfl vB4_choice_79
set_option maxRecDepth 20000 in
theorem vB4_choice_33 : am_vl 4 false (some .int) cX4_choice B4_choice_33 = true := am_vt (tl := B4_choice_35) 2 35 (by decide +kernel) rfl rfl vB4_choice_35
set_option maxRecDepth 20000 in
theorem vB4_choice_0 : am_vl 4 false (some .int) cX4_choice B4_choice_0 = true := am_vt (tl := B4_choice_33) 15 33 (by decide +kernel) rfl rfl vB4_choice_33
def B4_box_27 : List am_I := (27, .ireturn, 0, 0, .null, []) :: []
def B4_box_26 : List am_I := (26, .iconst (-1), 0, 0, .int (-1), []) :: B4_box_27
def B4_box_0 : List am_I := (0, .aload_n 0, 0, 0, .null, []) :: (1, .getfield 12, 4, 0, .null, []) :: (4, .iload_n 1, 0, 0, .null, []) :: (5, .invokevirtual 50, 52, 1, .ref 3, []) :: (8, .ifCond .eq 18, 26, 0, .null, []) :: (11, .aload_n 0, 0, 0, .null, []) :: (12, .getfield 12, 4, 0, .null, []) :: (15, .iconst 4, 0, 0, .int 4, []) :: (16, .iconst 1, 0, 0, .int 1, []) :: (17, .iload_n 1, 0, 0, .null, []) :: (18, .iconst (-1), 0, 0, .int (-1), []) :: (19, .iconst (-1), 0, 0, .int (-1), []) :: (20, .invokevirtual 57, 48, 5, .ref 3, []) :: (23, .goto 4, 27, 0, .null, []) :: B4_box_26
set_option maxRecDepth 20000 in
theorem vB4_box_27 : am_vl 4 false (some .int) cX4_box B4_box_27 = true := am_vt (tl := []) 1 0 (by decide +kernel) rfl rfl rfl
set_option maxRecDepth 20000 in
theorem vB4_box_26 : am_vl 4 false (some .int) cX4_box B4_box_26 = true := am_vt (tl := B4_box_27) 1 27 (by decide +kernel) rfl rfl vB4_box_27
set_option maxRecDepth 20000 in
theorem vB4_box_0 : am_vl 4 false (some .int) cX4_box B4_box_0 = true := am_vt (tl := B4_box_26) 14 26 (by decide +kernel) rfl rfl vB4_box_26
def B4_tie_17 : List am_I := (17, .ireturn, 0, 0, .null, []) :: []
def B4_tie_16 : List am_I := (16, .iconst (-1), 0, 0, .int (-1), []) :: B4_tie_17
def B4_tie_0 : List am_I := (0, .aload_n 0, 0, 0, .null, []) :: (1, .getfield 12, 4, 0, .null, []) :: (4, .iload_n 1, 0, 0, .null, []) :: (5, .iload_n 2, 0, 0, .null, []) :: (6, .invokevirtual 67, 49, 2, .ref 3, []) :: (9, .ifCond .eq 7, 16, 0, .null, []) :: (12, .iconst 1, 0, 0, .int 1, []) :: (13, .goto 4, 17, 0, .null, []) :: B4_tie_16
set_option maxRecDepth 20000 in
theorem vB4_tie_17 : am_vl 4 false (some .int) cX4_tie B4_tie_17 = true := am_vt (tl := []) 1 0 (by decide +kernel) rfl rfl rfl
set_option maxRecDepth 20000 in
theorem vB4_tie_16 : am_vl 4 false (some .int) cX4_tie B4_tie_16 = true := am_vt (tl := B4_tie_17) 1 17 (by decide +kernel) rfl rfl vB4_tie_17
set_option maxRecDepth 20000 in
theorem vB4_tie_0 : am_vl 4 false (some .int) cX4_tie B4_tie_0 = true := am_vt (tl := B4_tie_16) 8 16 (by decide +kernel) rfl rfl vB4_tie_16
def B4_row_27 : List am_I := (27, .ireturn, 0, 0, .null, []) :: []
def B4_row_26 : List am_I := (26, .iconst (-1), 0, 0, .int (-1), []) :: B4_row_27
def B4_row_0 : List am_I := (0, .aload_n 0, 0, 0, .null, []) :: (1, .getfield 12, 4, 0, .null, []) :: (4, .iload_n 1, 0, 0, .null, []) :: (5, .invokevirtual 46, 51, 1, .ref 3, []) :: (8, .ifCond .eq 18, 26, 0, .null, []) :: (11, .aload_n 0, 0, 0, .null, []) :: (12, .getfield 12, 4, 0, .null, []) :: (15, .iconst 5, 0, 0, .int 5, []) :: (16, .iconst 1, 0, 0, .int 1, []) :: (17, .iload_n 1, 0, 0, .null, []) :: (18, .iconst (-1), 0, 0, .int (-1), []) :: (19, .iconst (-1), 0, 0, .int (-1), []) :: (20, .invokevirtual 57, 48, 5, .ref 3, []) :: (23, .goto 4, 27, 0, .null, []) :: B4_row_26
set_option maxRecDepth 20000 in
theorem vB4_row_27 : am_vl 4 false (some .int) cX4_row B4_row_27 = true := am_vt (tl := []) 1 0 (by decide +kernel) rfl rfl rfl
set_option maxRecDepth 20000 in
theorem vB4_row_26 : am_vl 4 false (some .int) cX4_row B4_row_26 = true := am_vt (tl := B4_row_27) 1 27 (by decide +kernel) rfl rfl vB4_row_27
set_option maxRecDepth 20000 in
theorem vB4_row_0 : am_vl 4 false (some .int) cX4_row B4_row_0 = true := am_vt (tl := B4_row_26) 14 26 (by decide +kernel) rfl rfl vB4_row_26
def B4_about_40 : List am_I := (40, .aload_n 0, 0, 0, .null, []) :: (41, .getfield 12, 4, 0, .null, []) :: (44, .iload_n 1, 0, 0, .null, []) :: (45, .iload_n 2, 0, 0, .null, []) :: (46, .iconst 2, 0, 0, .int 2, []) :: (47, .isub, 0, 0, .null, []) :: (48, .invokevirtual 74, 55, 2, .ref 3, []) :: (51, .ireturn, 0, 0, .null, []) :: []
def B4_about_26 : List am_I := (26, .iload_n 2, 0, 0, .null, []) :: (27, .iconst 1, 0, 0, .int 1, []) :: (28, .if_icmp .ne 12, 40, 0, .null, []) :: (31, .aload_n 0, 0, 0, .null, []) :: (32, .getfield 12, 4, 0, .null, []) :: (35, .iload_n 1, 0, 0, .null, []) :: (36, .invokevirtual 53, 54, 1, .ref 3, []) :: (39, .ireturn, 0, 0, .null, []) :: B4_about_40
def B4_about_13 : List am_I := (13, .iload_n 2, 0, 0, .null, []) :: (14, .ifCond .ne 12, 26, 0, .null, []) :: (17, .aload_n 0, 0, 0, .null, []) :: (18, .getfield 12, 4, 0, .null, []) :: (21, .iload_n 1, 0, 0, .null, []) :: (22, .invokevirtual 71, 53, 1, .ref 3, []) :: (25, .ireturn, 0, 0, .null, []) :: B4_about_26
def B4_about_0 : List am_I := (0, .aload_n 0, 0, 0, .null, []) :: (1, .getfield 12, 4, 0, .null, []) :: (4, .iload_n 1, 0, 0, .null, []) :: (5, .invokevirtual 46, 51, 1, .ref 3, []) :: (8, .ifCond .ne 5, 13, 0, .null, []) :: (11, .iconst (-1), 0, 0, .int (-1), []) :: (12, .ireturn, 0, 0, .null, []) :: B4_about_13
set_option maxRecDepth 20000 in
theorem vB4_about_40 : am_vl 4 false (some .int) cX4_about B4_about_40 = true := am_vt (tl := []) 8 0 (by decide +kernel) rfl rfl rfl
set_option maxRecDepth 20000 in
theorem vB4_about_26 : am_vl 4 false (some .int) cX4_about B4_about_26 = true := am_vt (tl := B4_about_40) 8 40 (by decide +kernel) rfl rfl vB4_about_40
set_option maxRecDepth 20000 in
theorem vB4_about_13 : am_vl 4 false (some .int) cX4_about B4_about_13 = true := am_vt (tl := B4_about_26) 7 26 (by decide +kernel) rfl rfl vB4_about_26
set_option maxRecDepth 20000 in
theorem vB4_about_0 : am_vl 4 false (some .int) cX4_about B4_about_0 = true := am_vt (tl := B4_about_13) 7 13 (by decide +kernel) rfl rfl vB4_about_13
def B4_number_0 : List am_I := (0, .aload_n 0, 0, 0, .null, []) :: (1, .iconst 0, 0, 0, .int 0, []) :: (2, .lload_n 1, 0, 0, .null, []) :: (3, .invokevirtual 77, 85, 2, .ref 4, []) :: (6, .ireturn, 0, 0, .null, []) :: []
set_option maxRecDepth 20000 in
theorem vB4_number_0 : am_vl 4 false (some .int) cX4_number B4_number_0 = true := am_vt (tl := []) 5 0 (by decide +kernel) rfl rfl rfl
def B4_make_59 : List am_I := (59, .iconst (-1), 0, 0, .int (-1), []) :: (60, .ireturn, 0, 0, .null, []) :: []
def B4_make_53 : List am_I := (53, .aload_n 0, 0, 0, .null, []) :: (54, .iload_n 1, 0, 0, .null, []) :: (55, .invokevirtual 87, 89, 1, .ref 4, []) :: (58, .ireturn, 0, 0, .null, []) :: B4_make_59
def B4_make_46 : List am_I := (46, .aload_n 0, 0, 0, .null, []) :: (47, .iload_n 1, 0, 0, .null, []) :: (48, .iload_n 2, 0, 0, .null, []) :: (49, .invokevirtual 84, 88, 2, .ref 4, []) :: (52, .ireturn, 0, 0, .null, []) :: B4_make_53
def B4_make_40 : List am_I := (40, .aload_n 0, 0, 0, .null, []) :: (41, .iload_n 1, 0, 0, .null, []) :: (42, .invokevirtual 81, 86, 1, .ref 4, []) :: (45, .ireturn, 0, 0, .null, []) :: B4_make_46
def B4_make_0 : List am_I := (0, .aload_n 0, 0, 0, .null, []) :: (1, .getfield 12, 4, 0, .null, []) :: (4, .iload_n 1, 0, 0, .null, []) :: (5, .invokevirtual 71, 53, 1, .ref 3, []) :: (8, .tableswitch 51 1 4 #[32, 32, 38, 45], 59, 0, .null, [(1, 40), (2, 40), (3, 46), (4, 53)]) :: B4_make_40
set_option maxRecDepth 20000 in
theorem vB4_make_59 : am_vl 4 false (some .int) cX4_make B4_make_59 = true := am_vt (tl := []) 2 0 (by decide +kernel) rfl rfl rfl
set_option maxRecDepth 20000 in
theorem vB4_make_53 : am_vl 4 false (some .int) cX4_make B4_make_53 = true := am_vt (tl := B4_make_59) 4 59 (by decide +kernel) rfl rfl vB4_make_59
set_option maxRecDepth 20000 in
theorem vB4_make_46 : am_vl 4 false (some .int) cX4_make B4_make_46 = true := am_vt (tl := B4_make_53) 5 53 (by decide +kernel) rfl rfl vB4_make_53
set_option maxRecDepth 20000 in
theorem vB4_make_40 : am_vl 4 false (some .int) cX4_make B4_make_40 = true := am_vt (tl := B4_make_46) 4 46 (by decide +kernel) rfl rfl vB4_make_46
set_option maxRecDepth 20000 in
theorem vB4_make_0 : am_vl 4 false (some .int) cX4_make B4_make_0 = true := am_vt (tl := B4_make_40) 5 40 (by decide +kernel) rfl rfl vB4_make_40
def B4_gather_117 : List am_I := (117, .invokevirtual 113, 31, 3, .ref 2, []) :: (120, .aload_n 0, 0, 0, .null, []) :: (121, .getfield 19, 4, 1, .null, []) :: (124, .iload 4, 0, 0, .null, []) :: (126, .iload_n 3, 0, 0, .null, []) :: (127, .i2l, 0, 0, .null, []) :: (128, .invokevirtual 117, 30, 2, .ref 2, []) :: (131, .aload_n 0, 0, 0, .null, []) :: (132, .getfield 26, 4, 2, .null, []) :: (135, .iload_n 2, 0, 0, .null, []) :: (136, .invokevirtual 121, 23, 1, .ref 1, []) :: (139, .aload_n 0, 0, 0, .null, []) :: (140, .getfield 26, 4, 2, .null, []) :: (143, .iload_n 1, 0, 0, .null, []) :: (144, .invokevirtual 125, 22, 1, .ref 1, []) :: (147, .iconst 1, 0, 0, .int 1, []) :: (148, .ireturn, 0, 0, .null, []) :: []
def B4_gather_74 : List am_I := (74, .aload_n 0, 0, 0, .null, []) :: (75, .getfield 19, 4, 1, .null, []) :: (78, .iload_n 2, 0, 0, .null, []) :: (79, .invokevirtual 100, 37, 1, .ref 2, []) :: (82, .istore_n 3, 0, 0, .null, []) :: (83, .aload_n 0, 0, 0, .null, []) :: (84, .getfield 26, 4, 2, .null, []) :: (87, .invokevirtual 103, 16, 0, .ref 1, []) :: (90, .iload_n 2, 0, 0, .null, []) :: (91, .isub, 0, 0, .null, []) :: (92, .invokestatic 106, 93, 1, .int 0, []) :: (95, .istore 4, 0, 0, .null, []) :: (97, .aload_n 0, 0, 0, .null, []) :: (98, .getfield 19, 4, 1, .null, []) :: (101, .iload 4, 0, 0, .null, []) :: (103, .aload_n 0, 0, 0, .null, []) :: (104, .getfield 19, 4, 1, .null, []) :: (107, .iload_n 3, 0, 0, .null, []) :: (108, .i2l, 0, 0, .null, []) :: (109, .iconst 0, 0, 0, .int 0, []) :: (110, .invokevirtual 109, 44, 2, .ref 2, []) :: (113, .iload_n 2, 0, 0, .null, []) :: (114, .bipush 8, 0, 0, .int 8, []) :: (116, .imul, 0, 0, .null, []) :: B4_gather_117
def B4_gather_71 : List am_I := (71, .bipush (-2), 0, 0, .int (-2), []) :: (73, .ireturn, 0, 0, .null, []) :: B4_gather_74
def B4_gather_46 : List am_I := (46, .aload_n 0, 0, 0, .null, []) :: (47, .getfield 26, 4, 2, .null, []) :: (50, .iconst 1, 0, 0, .int 1, []) :: (51, .iload_n 2, 0, 0, .null, []) :: (52, .isub, 0, 0, .null, []) :: (53, .invokevirtual 93, 18, 1, .ref 1, []) :: (56, .ifCond .eq 15, 71, 0, .null, []) :: (59, .aload_n 0, 0, 0, .null, []) :: (60, .getfield 19, 4, 1, .null, []) :: (63, .invokevirtual 96, 35, 0, .ref 2, []) :: (66, .bipush 20, 0, 0, .int 20, []) :: (68, .if_icmp .lt 6, 74, 0, .null, []) :: B4_gather_71
def B4_gather_24 : List am_I := (24, .aload_n 0, 0, 0, .null, []) :: (25, .getfield 26, 4, 2, .null, []) :: (28, .iload_n 2, 0, 0, .null, []) :: (29, .aload_n 0, 0, 0, .null, []) :: (30, .getfield 12, 4, 0, .null, []) :: (33, .iload_n 1, 0, 0, .null, []) :: (34, .iconst 0, 0, 0, .int 0, []) :: (35, .invokevirtual 74, 55, 2, .ref 3, []) :: (38, .invokevirtual 90, 21, 2, .ref 1, []) :: (41, .ifCond .ne 5, 46, 0, .null, []) :: (44, .iconst (-1), 0, 0, .int (-1), []) :: (45, .ireturn, 0, 0, .null, []) :: B4_gather_46
def B4_gather_22 : List am_I := (22, .iconst (-1), 0, 0, .int (-1), []) :: (23, .ireturn, 0, 0, .null, []) :: B4_gather_24
def B4_gather_0 : List am_I := (0, .aload_n 0, 0, 0, .null, []) :: (1, .getfield 12, 4, 0, .null, []) :: (4, .iload_n 1, 0, 0, .null, []) :: (5, .invokevirtual 71, 53, 1, .ref 3, []) :: (8, .iconst 5, 0, 0, .int 5, []) :: (9, .if_icmp .ne 13, 22, 0, .null, []) :: (12, .iload_n 2, 0, 0, .null, []) :: (13, .ifCond .lt 9, 22, 0, .null, []) :: (16, .iload_n 2, 0, 0, .null, []) :: (17, .bipush 8, 0, 0, .int 8, []) :: (19, .if_icmp .le 5, 24, 0, .null, []) :: B4_gather_22
set_option maxRecDepth 20000 in
theorem vB4_gather_117 : am_vl 4 false (some .int) cX4_gather B4_gather_117 = true := am_vt (tl := []) 17 0 (by decide +kernel) rfl rfl rfl
set_option maxRecDepth 20000 in
theorem vB4_gather_74 : am_vl 4 false (some .int) cX4_gather B4_gather_74 = true := am_vt (tl := B4_gather_117) 24 117 (by decide +kernel) rfl rfl vB4_gather_117
set_option maxRecDepth 20000 in
theorem vB4_gather_71 : am_vl 4 false (some .int) cX4_gather B4_gather_71 = true := am_vt (tl := B4_gather_74) 2 74 (by decide +kernel) rfl rfl vB4_gather_74
set_option maxRecDepth 20000 in
theorem vB4_gather_46 : am_vl 4 false (some .int) cX4_gather B4_gather_46 = true := am_vt (tl := B4_gather_71) 12 71 (by decide +kernel) rfl rfl vB4_gather_71
set_option maxRecDepth 20000 in
theorem vB4_gather_24 : am_vl 4 false (some .int) cX4_gather B4_gather_24 = true := am_vt (tl := B4_gather_46) 12 46 (by decide +kernel) rfl rfl vB4_gather_46
set_option maxRecDepth 20000 in
theorem vB4_gather_22 : am_vl 4 false (some .int) cX4_gather B4_gather_22 = true := am_vt (tl := B4_gather_24) 2 24 (by decide +kernel) rfl rfl vB4_gather_24
set_option maxRecDepth 20000 in
theorem vB4_gather_0 : am_vl 4 false (some .int) cX4_gather B4_gather_0 = true := am_vt (tl := B4_gather_22) 11 22 (by decide +kernel) rfl rfl vB4_gather_22
def B4_open_68 : List am_I := (68, .invokevirtual 113, 31, 3, .ref 2, []) :: (71, .aload_n 0, 0, 0, .null, []) :: (72, .getfield 19, 4, 1, .null, []) :: (75, .lload_n 3, 0, 0, .null, []) :: (76, .invokevirtual 142, 39, 1, .ref 2, []) :: (79, .aload_n 0, 0, 0, .null, []) :: (80, .iload_n 2, 0, 0, .null, []) :: (81, .invokevirtual 146, 92, 1, .ref 4, []) :: (84, .iconst 1, 0, 0, .int 1, []) :: (85, .ireturn, 0, 0, .null, []) :: []
def B4_open_22 : List am_I := (22, .aload_n 0, 0, 0, .null, []) :: (23, .getfield 12, 4, 0, .null, []) :: (26, .iload_n 1, 0, 0, .null, []) :: (27, .iconst 0, 0, 0, .int 0, []) :: (28, .invokevirtual 74, 55, 2, .ref 3, []) :: (31, .istore_n 2, 0, 0, .null, []) :: (32, .aload_n 0, 0, 0, .null, []) :: (33, .getfield 19, 4, 1, .null, []) :: (36, .aload_n 0, 0, 0, .null, []) :: (37, .invokevirtual 131, 96, 0, .ref 4, []) :: (40, .invokevirtual 134, 29, 1, .ref 2, []) :: (43, .lstore_n 3, 0, 0, .null, []) :: (44, .aload_n 0, 0, 0, .null, []) :: (45, .getfield 19, 4, 1, .null, []) :: (48, .aload_n 0, 0, 0, .null, []) :: (49, .getfield 19, 4, 1, .null, []) :: (52, .lload_n 3, 0, 0, .null, []) :: (53, .invokevirtual 138, 43, 1, .ref 2, []) :: (56, .aload_n 0, 0, 0, .null, []) :: (57, .invokevirtual 131, 96, 0, .ref 4, []) :: (60, .aload_n 0, 0, 0, .null, []) :: (61, .getfield 12, 4, 0, .null, []) :: (64, .iload_n 2, 0, 0, .null, []) :: (65, .invokevirtual 53, 54, 1, .ref 3, []) :: B4_open_68
def B4_open_0 : List am_I := (0, .aload_n 0, 0, 0, .null, []) :: (1, .getfield 26, 4, 2, .null, []) :: (4, .invokevirtual 128, 20, 0, .ref 1, []) :: (7, .istore_n 1, 0, 0, .null, []) :: (8, .aload_n 0, 0, 0, .null, []) :: (9, .getfield 12, 4, 0, .null, []) :: (12, .iload_n 1, 0, 0, .null, []) :: (13, .invokevirtual 71, 53, 1, .ref 3, []) :: (16, .iconst 4, 0, 0, .int 4, []) :: (17, .if_icmp .eq 5, 22, 0, .null, []) :: (20, .iconst (-1), 0, 0, .int (-1), []) :: (21, .ireturn, 0, 0, .null, []) :: B4_open_22
set_option maxRecDepth 20000 in
theorem vB4_open_68 : am_vl 4 false (some .int) cX4_open B4_open_68 = true := am_vt (tl := []) 10 0 (by decide +kernel) rfl rfl rfl
set_option maxRecDepth 20000 in
theorem vB4_open_22 : am_vl 4 false (some .int) cX4_open B4_open_22 = true := am_vt (tl := B4_open_68) 24 68 (by decide +kernel) rfl rfl vB4_open_68
set_option maxRecDepth 20000 in
theorem vB4_open_0 : am_vl 4 false (some .int) cX4_open B4_open_0 = true := am_vt (tl := B4_open_22) 12 22 (by decide +kernel) rfl rfl vB4_open_22
def B4_apart_56 : List am_I := (56, .iconst (-1), 0, 0, .int (-1), []) :: (57, .ireturn, 0, 0, .null, []) :: []
def B4_apart_50 : List am_I := (50, .aload_n 0, 0, 0, .null, []) :: (51, .iload_n 1, 0, 0, .null, []) :: (52, .invokevirtual 152, 91, 1, .ref 4, []) :: (55, .ireturn, 0, 0, .null, []) :: B4_apart_56
def B4_apart_44 : List am_I := (44, .aload_n 0, 0, 0, .null, []) :: (45, .iload_n 1, 0, 0, .null, []) :: (46, .invokevirtual 149, 90, 1, .ref 4, []) :: (49, .ireturn, 0, 0, .null, []) :: B4_apart_50
def B4_apart_0 : List am_I := (0, .aload_n 0, 0, 0, .null, []) :: (1, .getfield 26, 4, 2, .null, []) :: (4, .invokevirtual 128, 20, 0, .ref 1, []) :: (7, .istore_n 1, 0, 0, .null, []) :: (8, .aload_n 0, 0, 0, .null, []) :: (9, .getfield 12, 4, 0, .null, []) :: (12, .iload_n 1, 0, 0, .null, []) :: (13, .invokevirtual 71, 53, 1, .ref 3, []) :: (16, .lookupswitch 40 #[(1, 28), (3, 34)], 56, 0, .null, [(1, 44), (3, 50)]) :: B4_apart_44
set_option maxRecDepth 20000 in
theorem vB4_apart_56 : am_vl 4 false (some .int) cX4_apart B4_apart_56 = true := am_vt (tl := []) 2 0 (by decide +kernel) rfl rfl rfl
set_option maxRecDepth 20000 in
theorem vB4_apart_50 : am_vl 4 false (some .int) cX4_apart B4_apart_50 = true := am_vt (tl := B4_apart_56) 4 56 (by decide +kernel) rfl rfl vB4_apart_56
set_option maxRecDepth 20000 in
theorem vB4_apart_44 : am_vl 4 false (some .int) cX4_apart B4_apart_44 = true := am_vt (tl := B4_apart_50) 4 50 (by decide +kernel) rfl rfl vB4_apart_50
set_option maxRecDepth 20000 in
theorem vB4_apart_0 : am_vl 4 false (some .int) cX4_apart B4_apart_0 = true := am_vt (tl := B4_apart_44) 9 44 (by decide +kernel) rfl rfl vB4_apart_44
def B4_drop_15 : List am_I := (15, .aload_n 0, 0, 0, .null, []) :: (16, .getfield 35, 4, 3, .null, []) :: (19, .iload_n 1, 0, 0, .null, []) :: (20, .aload_n 0, 0, 0, .null, []) :: (21, .invokevirtual 131, 96, 0, .ref 4, []) :: (24, .invokevirtual 155, 4, 2, .ref 0, []) :: (27, .aload_n 0, 0, 0, .null, []) :: (28, .getfield 26, 4, 2, .null, []) :: (31, .iconst 1, 0, 0, .int 1, []) :: (32, .invokevirtual 121, 23, 1, .ref 1, []) :: (35, .iconst 1, 0, 0, .int 1, []) :: (36, .ireturn, 0, 0, .null, []) :: []
def B4_drop_0 : List am_I := (0, .aload_n 0, 0, 0, .null, []) :: (1, .getfield 26, 4, 2, .null, []) :: (4, .invokevirtual 128, 20, 0, .ref 1, []) :: (7, .istore_n 1, 0, 0, .null, []) :: (8, .iload_n 1, 0, 0, .null, []) :: (9, .iconst (-1), 0, 0, .int (-1), []) :: (10, .if_icmp .ne 5, 15, 0, .null, []) :: (13, .iconst (-1), 0, 0, .int (-1), []) :: (14, .ireturn, 0, 0, .null, []) :: B4_drop_15
set_option maxRecDepth 20000 in
theorem vB4_drop_15 : am_vl 4 false (some .int) cX4_drop B4_drop_15 = true := am_vt (tl := []) 12 0 (by decide +kernel) rfl rfl rfl
set_option maxRecDepth 20000 in
theorem vB4_drop_0 : am_vl 4 false (some .int) cX4_drop B4_drop_0 = true := am_vt (tl := B4_drop_15) 9 15 (by decide +kernel) rfl rfl vB4_drop_15
def B4_store_68 : List am_I := (68, .iload_n 2, 0, 0, .null, []) :: (69, .invokevirtual 53, 54, 1, .ref 3, []) :: (72, .invokevirtual 113, 31, 3, .ref 2, []) :: (75, .aload_n 0, 0, 0, .null, []) :: (76, .getfield 26, 4, 2, .null, []) :: (79, .iload_n 3, 0, 0, .null, []) :: (80, .iload_n 1, 0, 0, .null, []) :: (81, .iload_n 2, 0, 0, .null, []) :: (82, .invokevirtual 171, 25, 3, .ref 1, []) :: (85, .aload_n 0, 0, 0, .null, []) :: (86, .getfield 26, 4, 2, .null, []) :: (89, .iconst 1, 0, 0, .int 1, []) :: (90, .invokevirtual 121, 23, 1, .ref 1, []) :: (93, .iconst 1, 0, 0, .int 1, []) :: (94, .ireturn, 0, 0, .null, []) :: []
def B4_store_22 : List am_I := (22, .aload_n 0, 0, 0, .null, []) :: (23, .getfield 26, 4, 2, .null, []) :: (26, .invokevirtual 162, 13, 0, .ref 1, []) :: (29, .istore_n 3, 0, 0, .null, []) :: (30, .aload_n 0, 0, 0, .null, []) :: (31, .getfield 35, 4, 3, .null, []) :: (34, .aload_n 0, 0, 0, .null, []) :: (35, .getfield 26, 4, 2, .null, []) :: (38, .iload_n 3, 0, 0, .null, []) :: (39, .iload_n 1, 0, 0, .null, []) :: (40, .invokevirtual 165, 24, 2, .ref 1, []) :: (43, .iload_n 3, 0, 0, .null, []) :: (44, .iload_n 1, 0, 0, .null, []) :: (45, .invokestatic 168, 94, 2, .int 0, []) :: (48, .invokevirtual 155, 4, 2, .ref 0, []) :: (51, .aload_n 0, 0, 0, .null, []) :: (52, .getfield 19, 4, 1, .null, []) :: (55, .aload_n 0, 0, 0, .null, []) :: (56, .invokevirtual 131, 96, 0, .ref 4, []) :: (59, .iload_n 3, 0, 0, .null, []) :: (60, .iload_n 1, 0, 0, .null, []) :: (61, .invokestatic 168, 94, 2, .int 0, []) :: (64, .aload_n 0, 0, 0, .null, []) :: (65, .getfield 12, 4, 0, .null, []) :: B4_store_68
def B4_store_20 : List am_I := (20, .iconst (-1), 0, 0, .int (-1), []) :: (21, .ireturn, 0, 0, .null, []) :: B4_store_22
def B4_store_0 : List am_I := (0, .aload_n 0, 0, 0, .null, []) :: (1, .getfield 26, 4, 2, .null, []) :: (4, .invokevirtual 128, 20, 0, .ref 1, []) :: (7, .istore_n 2, 0, 0, .null, []) :: (8, .iload_n 1, 0, 0, .null, []) :: (9, .invokestatic 159, 95, 1, .int 0, []) :: (12, .ifCond .eq 8, 20, 0, .null, []) :: (15, .iload_n 2, 0, 0, .null, []) :: (16, .iconst (-1), 0, 0, .int (-1), []) :: (17, .if_icmp .ne 5, 22, 0, .null, []) :: B4_store_20
set_option maxRecDepth 20000 in
theorem vB4_store_68 : am_vl 4 false (some .int) cX4_store B4_store_68 = true := am_vt (tl := []) 15 0 (by decide +kernel) rfl rfl rfl
set_option maxRecDepth 20000 in
theorem vB4_store_22 : am_vl 4 false (some .int) cX4_store B4_store_22 = true := am_vt (tl := B4_store_68) 24 68 (by decide +kernel) rfl rfl vB4_store_68
set_option maxRecDepth 20000 in
theorem vB4_store_20 : am_vl 4 false (some .int) cX4_store B4_store_20 = true := am_vt (tl := B4_store_22) 2 22 (by decide +kernel) rfl rfl vB4_store_22
set_option maxRecDepth 20000 in
theorem vB4_store_0 : am_vl 4 false (some .int) cX4_store B4_store_0 = true := am_vt (tl := B4_store_20) 10 20 (by decide +kernel) rfl rfl vB4_store_20
def B4_load_39 : List am_I := (39, .aload_n 0, 0, 0, .null, []) :: (40, .getfield 26, 4, 2, .null, []) :: (43, .iload_n 3, 0, 0, .null, []) :: (44, .invokevirtual 125, 22, 1, .ref 1, []) :: (47, .aload_n 0, 0, 0, .null, []) :: (48, .getfield 19, 4, 1, .null, []) :: (51, .iload_n 2, 0, 0, .null, []) :: (52, .iload_n 1, 0, 0, .null, []) :: (53, .invokestatic 168, 94, 2, .int 0, []) :: (56, .aload_n 0, 0, 0, .null, []) :: (57, .invokevirtual 131, 96, 0, .ref 4, []) :: (60, .aload_n 0, 0, 0, .null, []) :: (61, .getfield 12, 4, 0, .null, []) :: (64, .iload_n 3, 0, 0, .null, []) :: (65, .invokevirtual 53, 54, 1, .ref 3, []) :: (68, .invokevirtual 113, 31, 3, .ref 2, []) :: (71, .aload_n 0, 0, 0, .null, []) :: (72, .getfield 26, 4, 2, .null, []) :: (75, .iload_n 2, 0, 0, .null, []) :: (76, .iload_n 1, 0, 0, .null, []) :: (77, .iconst (-1), 0, 0, .int (-1), []) :: (78, .invokevirtual 171, 25, 3, .ref 1, []) :: (81, .iconst 1, 0, 0, .int 1, []) :: (82, .ireturn, 0, 0, .null, []) :: []
def B4_load_25 : List am_I := (25, .aload_n 0, 0, 0, .null, []) :: (26, .getfield 26, 4, 2, .null, []) :: (29, .iconst 1, 0, 0, .int 1, []) :: (30, .invokevirtual 93, 18, 1, .ref 1, []) :: (33, .ifCond .ne 6, 39, 0, .null, []) :: (36, .bipush (-2), 0, 0, .int (-2), []) :: (38, .ireturn, 0, 0, .null, []) :: B4_load_39
def B4_load_0 : List am_I := (0, .aload_n 0, 0, 0, .null, []) :: (1, .getfield 26, 4, 2, .null, []) :: (4, .invokevirtual 162, 13, 0, .ref 1, []) :: (7, .istore_n 2, 0, 0, .null, []) :: (8, .aload_n 0, 0, 0, .null, []) :: (9, .getfield 26, 4, 2, .null, []) :: (12, .iload_n 2, 0, 0, .null, []) :: (13, .iload_n 1, 0, 0, .null, []) :: (14, .invokevirtual 165, 24, 2, .ref 1, []) :: (17, .istore_n 3, 0, 0, .null, []) :: (18, .iload_n 3, 0, 0, .null, []) :: (19, .iconst (-1), 0, 0, .int (-1), []) :: (20, .if_icmp .ne 5, 25, 0, .null, []) :: (23, .iconst (-1), 0, 0, .int (-1), []) :: (24, .ireturn, 0, 0, .null, []) :: B4_load_25
set_option maxRecDepth 20000 in
theorem vB4_load_39 : am_vl 4 false (some .int) cX4_load B4_load_39 = true := am_vt (tl := []) 24 0 (by decide +kernel) rfl rfl rfl
set_option maxRecDepth 20000 in
theorem vB4_load_25 : am_vl 4 false (some .int) cX4_load B4_load_25 = true := am_vt (tl := B4_load_39) 7 39 (by decide +kernel) rfl rfl vB4_load_39
set_option maxRecDepth 20000 in
theorem vB4_load_0 : am_vl 4 false (some .int) cX4_load B4_load_0 = true := am_vt (tl := B4_load_25) 15 25 (by decide +kernel) rfl rfl vB4_load_25
def B4_set_25 : List am_I := (25, .aload_n 0, 0, 0, .null, []) :: (26, .getfield 35, 4, 3, .null, []) :: (29, .iload_n 3, 0, 0, .null, []) :: (30, .aload_n 0, 0, 0, .null, []) :: (31, .getfield 43, 4, 5, .null, []) :: (34, .invokevirtual 155, 4, 2, .ref 0, []) :: (37, .aload_n 0, 0, 0, .null, []) :: (38, .getfield 19, 4, 1, .null, []) :: (41, .aload_n 0, 0, 0, .null, []) :: (42, .invokevirtual 131, 96, 0, .ref 4, []) :: (45, .aload_n 0, 0, 0, .null, []) :: (46, .getfield 43, 4, 5, .null, []) :: (49, .aload_n 0, 0, 0, .null, []) :: (50, .getfield 12, 4, 0, .null, []) :: (53, .iload_n 3, 0, 0, .null, []) :: (54, .invokevirtual 53, 54, 1, .ref 3, []) :: (57, .invokevirtual 113, 31, 3, .ref 2, []) :: (60, .aload_n 0, 0, 0, .null, []) :: (61, .getfield 26, 4, 2, .null, []) :: (64, .iconst 1, 0, 0, .int 1, []) :: (65, .invokevirtual 121, 23, 1, .ref 1, []) :: (68, .iconst 1, 0, 0, .int 1, []) :: (69, .ireturn, 0, 0, .null, []) :: []
def B4_set_23 : List am_I := (23, .iconst (-1), 0, 0, .int (-1), []) :: (24, .ireturn, 0, 0, .null, []) :: B4_set_25
def B4_set_0 : List am_I := (0, .aload_n 0, 0, 0, .null, []) :: (1, .iload_n 1, 0, 0, .null, []) :: (2, .iload_n 2, 0, 0, .null, []) :: (3, .invokevirtual 174, 97, 2, .ref 4, []) :: (6, .istore_n 3, 0, 0, .null, []) :: (7, .iload_n 3, 0, 0, .null, []) :: (8, .iconst (-1), 0, 0, .int (-1), []) :: (9, .if_icmp .eq 14, 23, 0, .null, []) :: (12, .iload_n 3, 0, 0, .null, []) :: (13, .aload_n 0, 0, 0, .null, []) :: (14, .getfield 26, 4, 2, .null, []) :: (17, .invokevirtual 128, 20, 0, .ref 1, []) :: (20, .if_icmp .eq 5, 25, 0, .null, []) :: B4_set_23
set_option maxRecDepth 20000 in
theorem vB4_set_25 : am_vl 4 false (some .int) cX4_set B4_set_25 = true := am_vt (tl := []) 23 0 (by decide +kernel) rfl rfl rfl
set_option maxRecDepth 20000 in
theorem vB4_set_23 : am_vl 4 false (some .int) cX4_set B4_set_23 = true := am_vt (tl := B4_set_25) 2 25 (by decide +kernel) rfl rfl vB4_set_25
set_option maxRecDepth 20000 in
theorem vB4_set_0 : am_vl 4 false (some .int) cX4_set B4_set_0 = true := am_vt (tl := B4_set_23) 13 23 (by decide +kernel) rfl rfl vB4_set_23
def B4_swap_25 : List am_I := (25, .aload_n 0, 0, 0, .null, []) :: (26, .getfield 19, 4, 1, .null, []) :: (29, .aload_n 0, 0, 0, .null, []) :: (30, .invokevirtual 131, 96, 0, .ref 4, []) :: (33, .aload_n 0, 0, 0, .null, []) :: (34, .getfield 43, 4, 5, .null, []) :: (37, .aload_n 0, 0, 0, .null, []) :: (38, .getfield 12, 4, 0, .null, []) :: (41, .iload_n 3, 0, 0, .null, []) :: (42, .invokevirtual 53, 54, 1, .ref 3, []) :: (45, .invokevirtual 177, 32, 3, .ref 2, []) :: (48, .iconst 1, 0, 0, .int 1, []) :: (49, .ireturn, 0, 0, .null, []) :: []
def B4_swap_23 : List am_I := (23, .iconst (-1), 0, 0, .int (-1), []) :: (24, .ireturn, 0, 0, .null, []) :: B4_swap_25
def B4_swap_0 : List am_I := (0, .aload_n 0, 0, 0, .null, []) :: (1, .iload_n 1, 0, 0, .null, []) :: (2, .iload_n 2, 0, 0, .null, []) :: (3, .invokevirtual 174, 97, 2, .ref 4, []) :: (6, .istore_n 3, 0, 0, .null, []) :: (7, .iload_n 3, 0, 0, .null, []) :: (8, .iconst (-1), 0, 0, .int (-1), []) :: (9, .if_icmp .eq 14, 23, 0, .null, []) :: (12, .iload_n 3, 0, 0, .null, []) :: (13, .aload_n 0, 0, 0, .null, []) :: (14, .getfield 26, 4, 2, .null, []) :: (17, .invokevirtual 128, 20, 0, .ref 1, []) :: (20, .if_icmp .eq 5, 25, 0, .null, []) :: B4_swap_23
set_option maxRecDepth 20000 in
theorem vB4_swap_25 : am_vl 4 false (some .int) cX4_swap B4_swap_25 = true := am_vt (tl := []) 13 0 (by decide +kernel) rfl rfl rfl
set_option maxRecDepth 20000 in
theorem vB4_swap_23 : am_vl 4 false (some .int) cX4_swap B4_swap_23 = true := am_vt (tl := B4_swap_25) 2 25 (by decide +kernel) rfl rfl vB4_swap_25
set_option maxRecDepth 20000 in
theorem vB4_swap_0 : am_vl 4 false (some .int) cX4_swap B4_swap_0 = true := am_vt (tl := B4_swap_23) 13 23 (by decide +kernel) rfl rfl vB4_swap_23
def B4_push_127 : List am_I := (127, .invokevirtual 121, 23, 1, .ref 1, []) :: (130, .iload 7, 0, 0, .null, []) :: (132, .iconst 1, 0, 0, .int 1, []) :: (133, .iadd, 0, 0, .null, []) :: (134, .ireturn, 0, 0, .null, []) :: []
def B4_push_78 : List am_I := (78, .aload_n 0, 0, 0, .null, []) :: (79, .getfield 19, 4, 1, .null, []) :: (82, .aload_n 0, 0, 0, .null, []) :: (83, .invokevirtual 131, 96, 0, .ref 4, []) :: (86, .aload_n 0, 0, 0, .null, []) :: (87, .getfield 19, 4, 1, .null, []) :: (90, .lload 5, 0, 0, .null, []) :: (92, .iload 7, 0, 0, .null, []) :: (94, .invokevirtual 109, 44, 2, .ref 2, []) :: (97, .aload_n 0, 0, 0, .null, []) :: (98, .getfield 12, 4, 0, .null, []) :: (101, .iload 4, 0, 0, .null, []) :: (103, .invokevirtual 53, 54, 1, .ref 3, []) :: (106, .invokevirtual 113, 31, 3, .ref 2, []) :: (109, .aload_n 0, 0, 0, .null, []) :: (110, .getfield 19, 4, 1, .null, []) :: (113, .lload 5, 0, 0, .null, []) :: (115, .iload 7, 0, 0, .null, []) :: (117, .iconst 1, 0, 0, .int 1, []) :: (118, .iadd, 0, 0, .null, []) :: (119, .invokevirtual 183, 46, 2, .ref 2, []) :: (122, .aload_n 0, 0, 0, .null, []) :: (123, .getfield 26, 4, 2, .null, []) :: (126, .iconst 1, 0, 0, .int 1, []) :: B4_push_127
def B4_push_44 : List am_I := (44, .aload_n 0, 0, 0, .null, []) :: (45, .getfield 19, 4, 1, .null, []) :: (48, .aload_n 0, 0, 0, .null, []) :: (49, .getfield 43, 4, 5, .null, []) :: (52, .invokevirtual 134, 29, 1, .ref 2, []) :: (55, .lstore 5, 0, 0, .null, []) :: (57, .aload_n 0, 0, 0, .null, []) :: (58, .getfield 19, 4, 1, .null, []) :: (61, .lload 5, 0, 0, .null, []) :: (63, .invokevirtual 180, 45, 1, .ref 2, []) :: (66, .istore 7, 0, 0, .null, []) :: (68, .iload 7, 0, 0, .null, []) :: (70, .bipush 8, 0, 0, .int 8, []) :: (72, .if_icmp .lt 6, 78, 0, .null, []) :: (75, .bipush (-2), 0, 0, .int (-2), []) :: (77, .ireturn, 0, 0, .null, []) :: B4_push_78
def B4_push_42 : List am_I := (42, .iconst (-1), 0, 0, .int (-1), []) :: (43, .ireturn, 0, 0, .null, []) :: B4_push_44
def B4_push_0 : List am_I := (0, .aload_n 0, 0, 0, .null, []) :: (1, .iload_n 1, 0, 0, .null, []) :: (2, .iload_n 2, 0, 0, .null, []) :: (3, .invokevirtual 174, 97, 2, .ref 4, []) :: (6, .istore_n 3, 0, 0, .null, []) :: (7, .aload_n 0, 0, 0, .null, []) :: (8, .getfield 12, 4, 0, .null, []) :: (11, .iload_n 3, 0, 0, .null, []) :: (12, .iconst 0, 0, 0, .int 0, []) :: (13, .invokevirtual 74, 55, 2, .ref 3, []) :: (16, .istore 4, 0, 0, .null, []) :: (18, .aload_n 0, 0, 0, .null, []) :: (19, .getfield 12, 4, 0, .null, []) :: (22, .iload_n 3, 0, 0, .null, []) :: (23, .invokevirtual 71, 53, 1, .ref 3, []) :: (26, .iconst 5, 0, 0, .int 5, []) :: (27, .if_icmp .ne 15, 42, 0, .null, []) :: (30, .iload 4, 0, 0, .null, []) :: (32, .aload_n 0, 0, 0, .null, []) :: (33, .getfield 26, 4, 2, .null, []) :: (36, .invokevirtual 128, 20, 0, .ref 1, []) :: (39, .if_icmp .eq 5, 44, 0, .null, []) :: B4_push_42
set_option maxRecDepth 20000 in
theorem vB4_push_127 : am_vl 4 false (some .int) cX4_push B4_push_127 = true := am_vt (tl := []) 5 0 (by decide +kernel) rfl rfl rfl
set_option maxRecDepth 20000 in
theorem vB4_push_78 : am_vl 4 false (some .int) cX4_push B4_push_78 = true := am_vt (tl := B4_push_127) 24 127 (by decide +kernel) rfl rfl vB4_push_127
set_option maxRecDepth 20000 in
theorem vB4_push_44 : am_vl 4 false (some .int) cX4_push B4_push_44 = true := am_vt (tl := B4_push_78) 16 78 (by decide +kernel) rfl rfl vB4_push_78
set_option maxRecDepth 20000 in
theorem vB4_push_42 : am_vl 4 false (some .int) cX4_push B4_push_42 = true := am_vt (tl := B4_push_44) 2 44 (by decide +kernel) rfl rfl vB4_push_44
set_option maxRecDepth 20000 in
theorem vB4_push_0 : am_vl 4 false (some .int) cX4_push B4_push_0 = true := am_vt (tl := B4_push_42) 22 42 (by decide +kernel) rfl rfl vB4_push_42
def B4_pop_132 : List am_I := (132, .ireturn, 0, 0, .null, []) :: []
def B4_pop_79 : List am_I := (79, .aload_n 0, 0, 0, .null, []) :: (80, .getfield 26, 4, 2, .null, []) :: (83, .iload 4, 0, 0, .null, []) :: (85, .invokevirtual 125, 22, 1, .ref 1, []) :: (88, .aload_n 0, 0, 0, .null, []) :: (89, .getfield 19, 4, 1, .null, []) :: (92, .aload_n 0, 0, 0, .null, []) :: (93, .getfield 19, 4, 1, .null, []) :: (96, .lload 5, 0, 0, .null, []) :: (98, .iload 7, 0, 0, .null, []) :: (100, .invokevirtual 109, 44, 2, .ref 2, []) :: (103, .aload_n 0, 0, 0, .null, []) :: (104, .invokevirtual 131, 96, 0, .ref 4, []) :: (107, .aload_n 0, 0, 0, .null, []) :: (108, .getfield 12, 4, 0, .null, []) :: (111, .iload 4, 0, 0, .null, []) :: (113, .invokevirtual 53, 54, 1, .ref 3, []) :: (116, .invokevirtual 113, 31, 3, .ref 2, []) :: (119, .aload_n 0, 0, 0, .null, []) :: (120, .getfield 19, 4, 1, .null, []) :: (123, .lload 5, 0, 0, .null, []) :: (125, .iload 7, 0, 0, .null, []) :: (127, .invokevirtual 183, 46, 2, .ref 2, []) :: (130, .iload 7, 0, 0, .null, []) :: B4_pop_132
def B4_pop_65 : List am_I := (65, .aload_n 0, 0, 0, .null, []) :: (66, .getfield 26, 4, 2, .null, []) :: (69, .iconst 1, 0, 0, .int 1, []) :: (70, .invokevirtual 93, 18, 1, .ref 1, []) :: (73, .ifCond .ne 6, 79, 0, .null, []) :: (76, .bipush (-2), 0, 0, .int (-2), []) :: (78, .ireturn, 0, 0, .null, []) :: B4_pop_79
def B4_pop_21 : List am_I := (21, .aload_n 0, 0, 0, .null, []) :: (22, .getfield 12, 4, 0, .null, []) :: (25, .iload_n 3, 0, 0, .null, []) :: (26, .iconst 0, 0, 0, .int 0, []) :: (27, .invokevirtual 74, 55, 2, .ref 3, []) :: (30, .istore 4, 0, 0, .null, []) :: (32, .aload_n 0, 0, 0, .null, []) :: (33, .getfield 19, 4, 1, .null, []) :: (36, .aload_n 0, 0, 0, .null, []) :: (37, .getfield 43, 4, 5, .null, []) :: (40, .invokevirtual 134, 29, 1, .ref 2, []) :: (43, .lstore 5, 0, 0, .null, []) :: (45, .aload_n 0, 0, 0, .null, []) :: (46, .getfield 19, 4, 1, .null, []) :: (49, .lload 5, 0, 0, .null, []) :: (51, .invokevirtual 180, 45, 1, .ref 2, []) :: (54, .iconst 1, 0, 0, .int 1, []) :: (55, .isub, 0, 0, .null, []) :: (56, .istore 7, 0, 0, .null, []) :: (58, .iload 7, 0, 0, .null, []) :: (60, .ifCond .ge 5, 65, 0, .null, []) :: (63, .iconst (-1), 0, 0, .int (-1), []) :: (64, .ireturn, 0, 0, .null, []) :: B4_pop_65
def B4_pop_0 : List am_I := (0, .aload_n 0, 0, 0, .null, []) :: (1, .iload_n 1, 0, 0, .null, []) :: (2, .iload_n 2, 0, 0, .null, []) :: (3, .invokevirtual 174, 97, 2, .ref 4, []) :: (6, .istore_n 3, 0, 0, .null, []) :: (7, .aload_n 0, 0, 0, .null, []) :: (8, .getfield 12, 4, 0, .null, []) :: (11, .iload_n 3, 0, 0, .null, []) :: (12, .invokevirtual 71, 53, 1, .ref 3, []) :: (15, .iconst 5, 0, 0, .int 5, []) :: (16, .if_icmp .eq 5, 21, 0, .null, []) :: (19, .iconst (-1), 0, 0, .int (-1), []) :: (20, .ireturn, 0, 0, .null, []) :: B4_pop_21
set_option maxRecDepth 20000 in
theorem vB4_pop_132 : am_vl 4 false (some .int) cX4_pop B4_pop_132 = true := am_vt (tl := []) 1 0 (by decide +kernel) rfl rfl rfl
set_option maxRecDepth 20000 in
theorem vB4_pop_79 : am_vl 4 false (some .int) cX4_pop B4_pop_79 = true := am_vt (tl := B4_pop_132) 24 132 (by decide +kernel) rfl rfl vB4_pop_132
set_option maxRecDepth 20000 in
theorem vB4_pop_65 : am_vl 4 false (some .int) cX4_pop B4_pop_65 = true := am_vt (tl := B4_pop_79) 7 79 (by decide +kernel) rfl rfl vB4_pop_79
set_option maxRecDepth 20000 in
theorem vB4_pop_21 : am_vl 4 false (some .int) cX4_pop B4_pop_21 = true := am_vt (tl := B4_pop_65) 23 65 (by decide +kernel) rfl rfl vB4_pop_65
set_option maxRecDepth 20000 in
theorem vB4_pop_0 : am_vl 4 false (some .int) cX4_pop B4_pop_0 = true := am_vt (tl := B4_pop_21) 13 21 (by decide +kernel) rfl rfl vB4_pop_21
def B4_enter_125 : List am_I := (125, .aload_n 0, 0, 0, .null, []) :: (126, .getfield 26, 4, 2, .null, []) :: (129, .iload_n 1, 0, 0, .null, []) :: (130, .invokevirtual 121, 23, 1, .ref 1, []) :: (133, .aload_n 0, 0, 0, .null, []) :: (134, .getfield 26, 4, 2, .null, []) :: (137, .invokevirtual 196, 14, 0, .ref 1, []) :: (140, .aload_n 0, 0, 0, .null, []) :: (141, .getfield 26, 4, 2, .null, []) :: (144, .invokevirtual 190, 12, 0, .ref 1, []) :: (147, .ireturn, 0, 0, .null, []) :: []
def B4_enter_107 : List am_I := (107, .aload_n 0, 0, 0, .null, []) :: (108, .getfield 26, 4, 2, .null, []) :: (111, .iload_n 3, 0, 0, .null, []) :: (112, .iload 4, 0, 0, .null, []) :: (114, .iload 5, 0, 0, .null, []) :: (116, .invokevirtual 171, 25, 3, .ref 1, []) :: (119, .iinc 4 1, 0, 0, .int 1, []) :: (122, .goto (-63), 59, 0, .null, []) :: B4_enter_125
def B4_enter_59 : List am_I := (59, .iload 4, 0, 0, .null, []) :: (61, .iload_n 1, 0, 0, .null, []) :: (62, .if_icmp .ge 63, 125, 0, .null, []) :: (65, .aload_n 0, 0, 0, .null, []) :: (66, .getfield 26, 4, 2, .null, []) :: (69, .iload_n 2, 0, 0, .null, []) :: (70, .iload 4, 0, 0, .null, []) :: (72, .iadd, 0, 0, .null, []) :: (73, .invokevirtual 193, 19, 1, .ref 1, []) :: (76, .istore 5, 0, 0, .null, []) :: (78, .aload_n 0, 0, 0, .null, []) :: (79, .getfield 19, 4, 1, .null, []) :: (82, .iload_n 2, 0, 0, .null, []) :: (83, .iload 4, 0, 0, .null, []) :: (85, .iadd, 0, 0, .null, []) :: (86, .invokestatic 106, 93, 1, .int 0, []) :: (89, .iload_n 3, 0, 0, .null, []) :: (90, .iload 4, 0, 0, .null, []) :: (92, .invokestatic 168, 94, 2, .int 0, []) :: (95, .aload_n 0, 0, 0, .null, []) :: (96, .getfield 12, 4, 0, .null, []) :: (99, .iload 5, 0, 0, .null, []) :: (101, .invokevirtual 53, 54, 1, .ref 3, []) :: (104, .invokevirtual 113, 31, 3, .ref 2, []) :: B4_enter_107
def B4_enter_38 : List am_I := (38, .aload_n 0, 0, 0, .null, []) :: (39, .getfield 26, 4, 2, .null, []) :: (42, .invokevirtual 103, 16, 0, .ref 1, []) :: (45, .iload_n 1, 0, 0, .null, []) :: (46, .isub, 0, 0, .null, []) :: (47, .istore_n 2, 0, 0, .null, []) :: (48, .aload_n 0, 0, 0, .null, []) :: (49, .getfield 26, 4, 2, .null, []) :: (52, .invokevirtual 190, 12, 0, .ref 1, []) :: (55, .istore_n 3, 0, 0, .null, []) :: (56, .iconst 0, 0, 0, .int 0, []) :: (57, .istore 4, 0, 0, .null, []) :: B4_enter_59
def B4_enter_23 : List am_I := (23, .aload_n 0, 0, 0, .null, []) :: (24, .getfield 26, 4, 2, .null, []) :: (27, .invokevirtual 190, 12, 0, .ref 1, []) :: (30, .bipush 12, 0, 0, .int 12, []) :: (32, .if_icmp .lt 6, 38, 0, .null, []) :: (35, .bipush (-2), 0, 0, .int (-2), []) :: (37, .ireturn, 0, 0, .null, []) :: B4_enter_38
def B4_enter_21 : List am_I := (21, .iconst (-1), 0, 0, .int (-1), []) :: (22, .ireturn, 0, 0, .null, []) :: B4_enter_23
def B4_enter_0 : List am_I := (0, .iload_n 1, 0, 0, .null, []) :: (1, .ifCond .lt 20, 21, 0, .null, []) :: (4, .iload_n 1, 0, 0, .null, []) :: (5, .bipush 8, 0, 0, .int 8, []) :: (7, .if_icmp .gt 14, 21, 0, .null, []) :: (10, .iload_n 1, 0, 0, .null, []) :: (11, .aload_n 0, 0, 0, .null, []) :: (12, .getfield 26, 4, 2, .null, []) :: (15, .invokevirtual 187, 17, 0, .ref 1, []) :: (18, .if_icmp .le 5, 23, 0, .null, []) :: B4_enter_21
set_option maxRecDepth 20000 in
theorem vB4_enter_125 : am_vl 4 false (some .int) cX4_enter B4_enter_125 = true := am_vt (tl := []) 11 0 (by decide +kernel) rfl rfl rfl
set_option maxRecDepth 20000 in
theorem vB4_enter_107 : am_vl 4 false (some .int) cX4_enter B4_enter_107 = true := am_vt (tl := B4_enter_125) 8 125 (by decide +kernel) rfl rfl vB4_enter_125
set_option maxRecDepth 20000 in
theorem vB4_enter_59 : am_vl 4 false (some .int) cX4_enter B4_enter_59 = true := am_vt (tl := B4_enter_107) 24 107 (by decide +kernel) rfl rfl vB4_enter_107
set_option maxRecDepth 20000 in
theorem vB4_enter_38 : am_vl 4 false (some .int) cX4_enter B4_enter_38 = true := am_vt (tl := B4_enter_59) 12 59 (by decide +kernel) rfl rfl vB4_enter_59
set_option maxRecDepth 20000 in
theorem vB4_enter_23 : am_vl 4 false (some .int) cX4_enter B4_enter_23 = true := am_vt (tl := B4_enter_38) 7 38 (by decide +kernel) rfl rfl vB4_enter_38
set_option maxRecDepth 20000 in
theorem vB4_enter_21 : am_vl 4 false (some .int) cX4_enter B4_enter_21 = true := am_vt (tl := B4_enter_23) 2 23 (by decide +kernel) rfl rfl vB4_enter_23
set_option maxRecDepth 20000 in
theorem vB4_enter_0 : am_vl 4 false (some .int) cX4_enter B4_enter_0 = true := am_vt (tl := B4_enter_21) 10 21 (by decide +kernel) rfl rfl vB4_enter_21
def B4_leave_88 : List am_I := (88, .aload_n 0, 0, 0, .null, []) :: (89, .getfield 26, 4, 2, .null, []) :: (92, .invokevirtual 190, 12, 0, .ref 1, []) :: (95, .ireturn, 0, 0, .null, []) :: []
def B4_leave_53 : List am_I := (53, .invokevirtual 199, 103, 1, .ref 4, []) :: (56, .iload_n 1, 0, 0, .null, []) :: (57, .ifCond .eq 31, 88, 0, .null, []) :: (60, .aload_n 0, 0, 0, .null, []) :: (61, .getfield 26, 4, 2, .null, []) :: (64, .iload_n 2, 0, 0, .null, []) :: (65, .invokevirtual 125, 22, 1, .ref 1, []) :: (68, .aload_n 0, 0, 0, .null, []) :: (69, .getfield 19, 4, 1, .null, []) :: (72, .iload_n 3, 0, 0, .null, []) :: (73, .aload_n 0, 0, 0, .null, []) :: (74, .invokevirtual 131, 96, 0, .ref 4, []) :: (77, .aload_n 0, 0, 0, .null, []) :: (78, .getfield 12, 4, 0, .null, []) :: (81, .iload_n 2, 0, 0, .null, []) :: (82, .invokevirtual 53, 54, 1, .ref 3, []) :: (85, .invokevirtual 113, 31, 3, .ref 2, []) :: B4_leave_88
def B4_leave_52 : List am_I := (52, .iconst 0, 0, 0, .int 0, []) :: B4_leave_53
def B4_leave_38 : List am_I := (38, .aload_n 0, 0, 0, .null, []) :: (39, .invokevirtual 131, 96, 0, .ref 4, []) :: (42, .istore_n 3, 0, 0, .null, []) :: (43, .aload_n 0, 0, 0, .null, []) :: (44, .iload_n 1, 0, 0, .null, []) :: (45, .ifCond .eq 7, 52, 0, .null, []) :: (48, .iconst 1, 0, 0, .int 1, []) :: (49, .goto 4, 53, 0, .null, []) :: B4_leave_52
def B4_leave_36 : List am_I := (36, .iconst (-1), 0, 0, .int (-1), []) :: (37, .ireturn, 0, 0, .null, []) :: B4_leave_38
def B4_leave_15 : List am_I := (15, .istore_n 2, 0, 0, .null, []) :: (16, .aload_n 0, 0, 0, .null, []) :: (17, .getfield 26, 4, 2, .null, []) :: (20, .invokevirtual 190, 12, 0, .ref 1, []) :: (23, .iconst 1, 0, 0, .int 1, []) :: (24, .if_icmp .le 12, 36, 0, .null, []) :: (27, .iload_n 1, 0, 0, .null, []) :: (28, .ifCond .eq 10, 38, 0, .null, []) :: (31, .iload_n 2, 0, 0, .null, []) :: (32, .iconst (-1), 0, 0, .int (-1), []) :: (33, .if_icmp .ne 5, 38, 0, .null, []) :: B4_leave_36
def B4_leave_14 : List am_I := (14, .iconst (-1), 0, 0, .int (-1), []) :: B4_leave_15
def B4_leave_0 : List am_I := (0, .iload_n 1, 0, 0, .null, []) :: (1, .ifCond .eq 13, 14, 0, .null, []) :: (4, .aload_n 0, 0, 0, .null, []) :: (5, .getfield 26, 4, 2, .null, []) :: (8, .invokevirtual 128, 20, 0, .ref 1, []) :: (11, .goto 4, 15, 0, .null, []) :: B4_leave_14
set_option maxRecDepth 20000 in
theorem vB4_leave_88 : am_vl 4 false (some .int) cX4_leave B4_leave_88 = true := am_vt (tl := []) 4 0 (by decide +kernel) rfl rfl rfl
set_option maxRecDepth 20000 in
theorem vB4_leave_53 : am_vl 4 false (some .int) cX4_leave B4_leave_53 = true := am_vt (tl := B4_leave_88) 17 88 (by decide +kernel) rfl rfl vB4_leave_88
set_option maxRecDepth 20000 in
theorem vB4_leave_52 : am_vl 4 false (some .int) cX4_leave B4_leave_52 = true := am_vt (tl := B4_leave_53) 1 53 (by decide +kernel) rfl rfl vB4_leave_53
set_option maxRecDepth 20000 in
theorem vB4_leave_38 : am_vl 4 false (some .int) cX4_leave B4_leave_38 = true := am_vt (tl := B4_leave_52) 8 52 (by decide +kernel) rfl rfl vB4_leave_52
set_option maxRecDepth 20000 in
theorem vB4_leave_36 : am_vl 4 false (some .int) cX4_leave B4_leave_36 = true := am_vt (tl := B4_leave_38) 2 38 (by decide +kernel) rfl rfl vB4_leave_38
set_option maxRecDepth 20000 in
theorem vB4_leave_15 : am_vl 4 false (some .int) cX4_leave B4_leave_15 = true := am_vt (tl := B4_leave_36) 11 36 (by decide +kernel) rfl rfl vB4_leave_36
set_option maxRecDepth 20000 in
theorem vB4_leave_14 : am_vl 4 false (some .int) cX4_leave B4_leave_14 = true := am_vt (tl := B4_leave_15) 1 15 (by decide +kernel) rfl rfl vB4_leave_15
set_option maxRecDepth 20000 in
theorem vB4_leave_0 : am_vl 4 false (some .int) cX4_leave B4_leave_0 = true := am_vt (tl := B4_leave_14) 6 14 (by decide +kernel) rfl rfl vB4_leave_14
def B4_fail_26 : List am_I := (26, .aload_n 0, 0, 0, .null, []) :: (27, .getfield 26, 4, 2, .null, []) :: (30, .invokevirtual 196, 14, 0, .ref 1, []) :: (33, .iload_n 1, 0, 0, .null, []) :: (34, .ireturn, 0, 0, .null, []) :: []
def B4_fail_10 : List am_I := (10, .iload_n 2, 0, 0, .null, []) :: (11, .iload_n 1, 0, 0, .null, []) :: (12, .if_icmp .ge 14, 26, 0, .null, []) :: (15, .aload_n 0, 0, 0, .null, []) :: (16, .iconst 0, 0, 0, .int 0, []) :: (17, .invokevirtual 199, 103, 1, .ref 4, []) :: (20, .iinc 2 1, 0, 0, .int 1, []) :: (23, .goto (-13), 10, 0, .null, []) :: B4_fail_26
def B4_fail_0 : List am_I := (0, .aload_n 0, 0, 0, .null, []) :: (1, .getfield 26, 4, 2, .null, []) :: (4, .invokevirtual 190, 12, 0, .ref 1, []) :: (7, .istore_n 1, 0, 0, .null, []) :: (8, .iconst 0, 0, 0, .int 0, []) :: (9, .istore_n 2, 0, 0, .null, []) :: B4_fail_10
set_option maxRecDepth 20000 in
theorem vB4_fail_26 : am_vl 4 false (some .int) cX4_fail B4_fail_26 = true := am_vt (tl := []) 5 0 (by decide +kernel) rfl rfl rfl
set_option maxRecDepth 20000 in
theorem vB4_fail_10 : am_vl 4 false (some .int) cX4_fail B4_fail_10 = true := am_vt (tl := B4_fail_26) 8 26 (by decide +kernel) rfl rfl vB4_fail_26
set_option maxRecDepth 20000 in
theorem vB4_fail_0 : am_vl 4 false (some .int) cX4_fail B4_fail_0 = true := am_vt (tl := B4_fail_10) 6 10 (by decide +kernel) rfl rfl vB4_fail_10
def B4_shape_0 : List am_I := (0, .aload_n 0, 0, 0, .null, []) :: (1, .iload_n 1, 0, 0, .null, []) :: (2, .iload_n 2, 0, 0, .null, []) :: (3, .invokevirtual 174, 97, 2, .ref 4, []) :: (6, .ireturn, 0, 0, .null, []) :: []
set_option maxRecDepth 20000 in
theorem vB4_shape_0 : am_vl 4 false (some .int) cX4_shape B4_shape_0 = true := am_vt (tl := []) 5 0 (by decide +kernel) rfl rfl rfl
def B4_look_24 : List am_I := (24, .lreturn, 0, 0, .null, []) :: []
def B4_look_23 : List am_I := (23, .lconst 0, 0, 0, .long 0, []) :: B4_look_24
def B4_look_0 : List am_I := (0, .aload_n 0, 0, 0, .null, []) :: (1, .iload_n 1, 0, 0, .null, []) :: (2, .iload_n 2, 0, 0, .null, []) :: (3, .invokevirtual 174, 97, 2, .ref 4, []) :: (6, .ifCond .ne 17, 23, 0, .null, []) :: (9, .aload_n 0, 0, 0, .null, []) :: (10, .getfield 19, 4, 1, .null, []) :: (13, .aload_n 0, 0, 0, .null, []) :: (14, .getfield 43, 4, 5, .null, []) :: (17, .invokevirtual 134, 29, 1, .ref 2, []) :: (20, .goto 4, 24, 0, .null, []) :: B4_look_23
set_option maxRecDepth 20000 in
theorem vB4_look_24 : am_vl 4 false (some .long) cX4_look B4_look_24 = true := am_vt (tl := []) 1 0 (by decide +kernel) rfl rfl rfl
set_option maxRecDepth 20000 in
theorem vB4_look_23 : am_vl 4 false (some .long) cX4_look B4_look_23 = true := am_vt (tl := B4_look_24) 1 24 (by decide +kernel) rfl rfl vB4_look_24
set_option maxRecDepth 20000 in
theorem vB4_look_0 : am_vl 4 false (some .long) cX4_look B4_look_0 = true := am_vt (tl := B4_look_23) 11 23 (by decide +kernel) rfl rfl vB4_look_23
def B4_state_72 : List am_I := (72, .iconst (-1), 0, 0, .int (-1), []) :: (73, .ireturn, 0, 0, .null, []) :: []
def B4_state_53 : List am_I := (53, .aload_n 0, 0, 0, .null, []) :: (54, .getfield 19, 4, 1, .null, []) :: (57, .aload_n 0, 0, 0, .null, []) :: (58, .getfield 19, 4, 1, .null, []) :: (61, .aload_n 0, 0, 0, .null, []) :: (62, .getfield 43, 4, 5, .null, []) :: (65, .invokevirtual 134, 29, 1, .ref 2, []) :: (68, .invokevirtual 180, 45, 1, .ref 2, []) :: (71, .ireturn, 0, 0, .null, []) :: B4_state_72
def B4_state_40 : List am_I := (40, .aload_n 0, 0, 0, .null, []) :: (41, .getfield 19, 4, 1, .null, []) :: (44, .aload_n 0, 0, 0, .null, []) :: (45, .getfield 43, 4, 5, .null, []) :: (48, .invokevirtual 134, 29, 1, .ref 2, []) :: (51, .l2i, 0, 0, .null, []) :: (52, .ireturn, 0, 0, .null, []) :: B4_state_53
def B4_state_0 : List am_I := (0, .aload_n 0, 0, 0, .null, []) :: (1, .getfield 12, 4, 0, .null, []) :: (4, .aload_n 0, 0, 0, .null, []) :: (5, .iload_n 1, 0, 0, .null, []) :: (6, .iload_n 2, 0, 0, .null, []) :: (7, .invokevirtual 174, 97, 2, .ref 4, []) :: (10, .invokevirtual 71, 53, 1, .ref 3, []) :: (13, .lookupswitch 59 #[(3, 27), (5, 40)], 72, 0, .null, [(3, 40), (5, 53)]) :: B4_state_40
set_option maxRecDepth 20000 in
theorem vB4_state_72 : am_vl 4 false (some .int) cX4_state B4_state_72 = true := am_vt (tl := []) 2 0 (by decide +kernel) rfl rfl rfl
set_option maxRecDepth 20000 in
theorem vB4_state_53 : am_vl 4 false (some .int) cX4_state B4_state_53 = true := am_vt (tl := B4_state_72) 9 72 (by decide +kernel) rfl rfl vB4_state_72
set_option maxRecDepth 20000 in
theorem vB4_state_40 : am_vl 4 false (some .int) cX4_state B4_state_40 = true := am_vt (tl := B4_state_53) 7 53 (by decide +kernel) rfl rfl vB4_state_53
set_option maxRecDepth 20000 in
theorem vB4_state_0 : am_vl 4 false (some .int) cX4_state B4_state_0 = true := am_vt (tl := B4_state_40) 8 40 (by decide +kernel) rfl rfl vB4_state_40
def B4_out_0 : List am_I := (0, .aload_n 0, 0, 0, .null, []) :: (1, .getfield 35, 4, 3, .null, []) :: (4, .iload_n 1, 0, 0, .null, []) :: (5, .invokevirtual 202, 3, 1, .ref 0, []) :: (8, .lreturn, 0, 0, .null, []) :: []
set_option maxRecDepth 20000 in
theorem vB4_out_0 : am_vl 4 false (some .long) cX4_out B4_out_0 = true := am_vt (tl := []) 5 0 (by decide +kernel) rfl rfl rfl
def B4_count_133 : List am_I := (133, .iconst (-1), 0, 0, .int (-1), []) :: (134, .ireturn, 0, 0, .null, []) :: []
def B4_count_125 : List am_I := (125, .aload_n 0, 0, 0, .null, []) :: (126, .getfield 35, 4, 3, .null, []) :: (129, .invokevirtual 217, 2, 0, .ref 0, []) :: (132, .ireturn, 0, 0, .null, []) :: B4_count_133
def B4_count_117 : List am_I := (117, .aload_n 0, 0, 0, .null, []) :: (118, .getfield 35, 4, 3, .null, []) :: (121, .invokevirtual 214, 1, 0, .ref 0, []) :: (124, .ireturn, 0, 0, .null, []) :: B4_count_125
def B4_count_112 : List am_I := (112, .aload_n 0, 0, 0, .null, []) :: (113, .getfield 39, 4, 4, .null, []) :: (116, .ireturn, 0, 0, .null, []) :: B4_count_117
def B4_count_104 : List am_I := (104, .aload_n 0, 0, 0, .null, []) :: (105, .getfield 19, 4, 1, .null, []) :: (108, .invokevirtual 96, 35, 0, .ref 2, []) :: (111, .ireturn, 0, 0, .null, []) :: B4_count_112
def B4_count_96 : List am_I := (96, .aload_n 0, 0, 0, .null, []) :: (97, .getfield 19, 4, 1, .null, []) :: (100, .invokevirtual 211, 34, 0, .ref 2, []) :: (103, .ireturn, 0, 0, .null, []) :: B4_count_104
def B4_count_88 : List am_I := (88, .aload_n 0, 0, 0, .null, []) :: (89, .getfield 26, 4, 2, .null, []) :: (92, .invokevirtual 208, 27, 0, .ref 1, []) :: (95, .ireturn, 0, 0, .null, []) :: B4_count_96
def B4_count_80 : List am_I := (80, .aload_n 0, 0, 0, .null, []) :: (81, .getfield 26, 4, 2, .null, []) :: (84, .invokevirtual 187, 17, 0, .ref 1, []) :: (87, .ireturn, 0, 0, .null, []) :: B4_count_88
def B4_count_72 : List am_I := (72, .aload_n 0, 0, 0, .null, []) :: (73, .getfield 26, 4, 2, .null, []) :: (76, .invokevirtual 103, 16, 0, .ref 1, []) :: (79, .ireturn, 0, 0, .null, []) :: B4_count_80
def B4_count_64 : List am_I := (64, .aload_n 0, 0, 0, .null, []) :: (65, .getfield 26, 4, 2, .null, []) :: (68, .invokevirtual 190, 12, 0, .ref 1, []) :: (71, .ireturn, 0, 0, .null, []) :: B4_count_72
def B4_count_56 : List am_I := (56, .aload_n 0, 0, 0, .null, []) :: (57, .getfield 12, 4, 0, .null, []) :: (60, .invokevirtual 205, 50, 0, .ref 3, []) :: (63, .ireturn, 0, 0, .null, []) :: B4_count_64
def B4_count_0 : List am_I := (0, .iload_n 1, 0, 0, .null, []) :: (1, .tableswitch 132 0 9 #[55, 63, 71, 79, 87, 95, 103, 111, 116, 124], 133, 0, .null, [(0, 56), (1, 64), (2, 72), (3, 80), (4, 88), (5, 96), (6, 104), (7, 112), (8, 117), (9, 125)]) :: B4_count_56
set_option maxRecDepth 20000 in
theorem vB4_count_133 : am_vl 4 false (some .int) cX4_count B4_count_133 = true := am_vt (tl := []) 2 0 (by decide +kernel) rfl rfl rfl
set_option maxRecDepth 20000 in
theorem vB4_count_125 : am_vl 4 false (some .int) cX4_count B4_count_125 = true := am_vt (tl := B4_count_133) 4 133 (by decide +kernel) rfl rfl vB4_count_133
set_option maxRecDepth 20000 in
theorem vB4_count_117 : am_vl 4 false (some .int) cX4_count B4_count_117 = true := am_vt (tl := B4_count_125) 4 125 (by decide +kernel) rfl rfl vB4_count_125
set_option maxRecDepth 20000 in
theorem vB4_count_112 : am_vl 4 false (some .int) cX4_count B4_count_112 = true := am_vt (tl := B4_count_117) 3 117 (by decide +kernel) rfl rfl vB4_count_117
set_option maxRecDepth 20000 in
theorem vB4_count_104 : am_vl 4 false (some .int) cX4_count B4_count_104 = true := am_vt (tl := B4_count_112) 4 112 (by decide +kernel) rfl rfl vB4_count_112
set_option maxRecDepth 20000 in
theorem vB4_count_96 : am_vl 4 false (some .int) cX4_count B4_count_96 = true := am_vt (tl := B4_count_104) 4 104 (by decide +kernel) rfl rfl vB4_count_104
set_option maxRecDepth 20000 in
theorem vB4_count_88 : am_vl 4 false (some .int) cX4_count B4_count_88 = true := am_vt (tl := B4_count_96) 4 96 (by decide +kernel) rfl rfl vB4_count_96
set_option maxRecDepth 20000 in
theorem vB4_count_80 : am_vl 4 false (some .int) cX4_count B4_count_80 = true := am_vt (tl := B4_count_88) 4 88 (by decide +kernel) rfl rfl vB4_count_88
set_option maxRecDepth 20000 in
theorem vB4_count_72 : am_vl 4 false (some .int) cX4_count B4_count_72 = true := am_vt (tl := B4_count_80) 4 80 (by decide +kernel) rfl rfl vB4_count_80
set_option maxRecDepth 20000 in
theorem vB4_count_64 : am_vl 4 false (some .int) cX4_count B4_count_64 = true := am_vt (tl := B4_count_72) 4 72 (by decide +kernel) rfl rfl vB4_count_72
set_option maxRecDepth 20000 in
theorem vB4_count_56 : am_vl 4 false (some .int) cX4_count B4_count_56 = true := am_vt (tl := B4_count_64) 4 64 (by decide +kernel) rfl rfl vB4_count_64
set_option maxRecDepth 20000 in
theorem vB4_count_0 : am_vl 4 false (some .int) cX4_count B4_count_0 = true := am_vt (tl := B4_count_56) 2 56 (by decide +kernel) rfl rfl vB4_count_56
def B4_layOneCell_14 : List am_I := (14, .aload_n 0, 0, 0, .null, []) :: (15, .getfield 26, 4, 2, .null, []) :: (18, .iload_n 1, 0, 0, .null, []) :: (19, .invokevirtual 125, 22, 1, .ref 1, []) :: (22, .aload_n 0, 0, 0, .null, []) :: (23, .getfield 19, 4, 1, .null, []) :: (26, .aload_n 0, 0, 0, .null, []) :: (27, .invokevirtual 131, 96, 0, .ref 4, []) :: (30, .lload_n 2, 0, 0, .null, []) :: (31, .invokevirtual 117, 30, 2, .ref 2, []) :: (34, .iconst 1, 0, 0, .int 1, []) :: (35, .ireturn, 0, 0, .null, []) :: []
def B4_layOneCell_0 : List am_I := (0, .aload_n 0, 0, 0, .null, []) :: (1, .getfield 26, 4, 2, .null, []) :: (4, .iconst 1, 0, 0, .int 1, []) :: (5, .invokevirtual 93, 18, 1, .ref 1, []) :: (8, .ifCond .ne 6, 14, 0, .null, []) :: (11, .bipush (-2), 0, 0, .int (-2), []) :: (13, .ireturn, 0, 0, .null, []) :: B4_layOneCell_14
set_option maxRecDepth 20000 in
theorem vB4_layOneCell_14 : am_vl 4 false (some .int) cX4_layOneCell B4_layOneCell_14 = true := am_vt (tl := []) 12 0 (by decide +kernel) rfl rfl rfl
set_option maxRecDepth 20000 in
theorem vB4_layOneCell_0 : am_vl 4 false (some .int) cX4_layOneCell B4_layOneCell_0 = true := am_vt (tl := B4_layOneCell_14) 7 14 (by decide +kernel) rfl rfl vB4_layOneCell_14
def B4_makeRecord_133 : List am_I := (133, .iconst 1, 0, 0, .int 1, []) :: (134, .ireturn, 0, 0, .null, []) :: []
def B4_makeRecord_95 : List am_I := (95, .aload_n 0, 0, 0, .null, []) :: (96, .getfield 26, 4, 2, .null, []) :: (99, .iload_n 2, 0, 0, .null, []) :: (100, .invokevirtual 121, 23, 1, .ref 1, []) :: (103, .aload_n 0, 0, 0, .null, []) :: (104, .getfield 26, 4, 2, .null, []) :: (107, .iload_n 1, 0, 0, .null, []) :: (108, .invokevirtual 125, 22, 1, .ref 1, []) :: (111, .aload_n 0, 0, 0, .null, []) :: (112, .getfield 12, 4, 0, .null, []) :: (115, .iload_n 1, 0, 0, .null, []) :: (116, .invokevirtual 71, 53, 1, .ref 3, []) :: (119, .iconst 2, 0, 0, .int 2, []) :: (120, .if_icmp .ne 13, 133, 0, .null, []) :: (123, .aload_n 0, 0, 0, .null, []) :: (124, .dup, 0, 0, .null, []) :: (125, .getfield 39, 4, 4, .null, []) :: (128, .iconst 1, 0, 0, .int 1, []) :: (129, .iadd, 0, 0, .null, []) :: (130, .putfield 39, 4, 4, .null, []) :: B4_makeRecord_133
def B4_makeRecord_87 : List am_I := (87, .istore 4, 0, 0, .null, []) :: (89, .iinc 5 1, 0, 0, .int 1, []) :: (92, .goto (-53), 39, 0, .null, []) :: B4_makeRecord_95
def B4_makeRecord_39 : List am_I := (39, .iload 5, 0, 0, .null, []) :: (41, .iload_n 2, 0, 0, .null, []) :: (42, .if_icmp .ge 53, 95, 0, .null, []) :: (45, .aload_n 0, 0, 0, .null, []) :: (46, .getfield 12, 4, 0, .null, []) :: (49, .aload_n 0, 0, 0, .null, []) :: (50, .getfield 12, 4, 0, .null, []) :: (53, .iload_n 1, 0, 0, .null, []) :: (54, .iload 5, 0, 0, .null, []) :: (56, .invokevirtual 74, 55, 2, .ref 3, []) :: (59, .invokevirtual 53, 54, 1, .ref 3, []) :: (62, .istore 6, 0, 0, .null, []) :: (64, .aload_n 0, 0, 0, .null, []) :: (65, .getfield 19, 4, 1, .null, []) :: (68, .iload_n 3, 0, 0, .null, []) :: (69, .iload 5, 0, 0, .null, []) :: (71, .iadd, 0, 0, .null, []) :: (72, .invokestatic 106, 93, 1, .int 0, []) :: (75, .iload 4, 0, 0, .null, []) :: (77, .iload 6, 0, 0, .null, []) :: (79, .invokevirtual 113, 31, 3, .ref 2, []) :: (82, .iload 4, 0, 0, .null, []) :: (84, .iload 6, 0, 0, .null, []) :: (86, .iadd, 0, 0, .null, []) :: B4_makeRecord_87
def B4_makeRecord_20 : List am_I := (20, .aload_n 0, 0, 0, .null, []) :: (21, .getfield 26, 4, 2, .null, []) :: (24, .invokevirtual 103, 16, 0, .ref 1, []) :: (27, .iload_n 2, 0, 0, .null, []) :: (28, .isub, 0, 0, .null, []) :: (29, .istore_n 3, 0, 0, .null, []) :: (30, .iload_n 3, 0, 0, .null, []) :: (31, .invokestatic 106, 93, 1, .int 0, []) :: (34, .istore 4, 0, 0, .null, []) :: (36, .iconst 0, 0, 0, .int 0, []) :: (37, .istore 5, 0, 0, .null, []) :: B4_makeRecord_39
def B4_makeRecord_0 : List am_I := (0, .aload_n 0, 0, 0, .null, []) :: (1, .getfield 12, 4, 0, .null, []) :: (4, .iload_n 1, 0, 0, .null, []) :: (5, .invokevirtual 220, 56, 1, .ref 3, []) :: (8, .istore_n 2, 0, 0, .null, []) :: (9, .aload_n 0, 0, 0, .null, []) :: (10, .iload_n 1, 0, 0, .null, []) :: (11, .iload_n 2, 0, 0, .null, []) :: (12, .invokevirtual 223, 87, 2, .ref 4, []) :: (15, .ifCond .ne 5, 20, 0, .null, []) :: (18, .iconst (-1), 0, 0, .int (-1), []) :: (19, .ireturn, 0, 0, .null, []) :: B4_makeRecord_20
set_option maxRecDepth 20000 in
theorem vB4_makeRecord_133 : am_vl 4 false (some .int) cX4_makeRecord B4_makeRecord_133 = true := am_vt (tl := []) 2 0 (by decide +kernel) rfl rfl rfl
set_option maxRecDepth 20000 in
theorem vB4_makeRecord_95 : am_vl 4 false (some .int) cX4_makeRecord B4_makeRecord_95 = true := am_vt (tl := B4_makeRecord_133) 20 133 (by decide +kernel) rfl rfl vB4_makeRecord_133
set_option maxRecDepth 20000 in
theorem vB4_makeRecord_87 : am_vl 4 false (some .int) cX4_makeRecord B4_makeRecord_87 = true := am_vt (tl := B4_makeRecord_95) 3 95 (by decide +kernel) rfl rfl vB4_makeRecord_95
set_option maxRecDepth 20000 in
theorem vB4_makeRecord_39 : am_vl 4 false (some .int) cX4_makeRecord B4_makeRecord_39 = true := am_vt (tl := B4_makeRecord_87) 24 87 (by decide +kernel) rfl rfl vB4_makeRecord_87
set_option maxRecDepth 20000 in
theorem vB4_makeRecord_20 : am_vl 4 false (some .int) cX4_makeRecord B4_makeRecord_20 = true := am_vt (tl := B4_makeRecord_39) 11 39 (by decide +kernel) rfl rfl vB4_makeRecord_39
set_option maxRecDepth 20000 in
theorem vB4_makeRecord_0 : am_vl 4 false (some .int) cX4_makeRecord B4_makeRecord_0 = true := am_vt (tl := B4_makeRecord_20) 12 20 (by decide +kernel) rfl rfl vB4_makeRecord_20
def B4_handEndsWithFieldsOf_64 : List am_I := (64, .iconst 1, 0, 0, .int 1, []) :: (65, .ireturn, 1, 0, .null, []) :: []
def B4_handEndsWithFieldsOf_58 : List am_I := (58, .iinc 4 1, 0, 0, .int 1, []) :: (61, .goto (-35), 26, 0, .null, []) :: B4_handEndsWithFieldsOf_64
def B4_handEndsWithFieldsOf_26 : List am_I := (26, .iload 4, 0, 0, .null, []) :: (28, .iload_n 2, 0, 0, .null, []) :: (29, .if_icmp .ge 35, 64, 0, .null, []) :: (32, .aload_n 0, 0, 0, .null, []) :: (33, .getfield 26, 4, 2, .null, []) :: (36, .iload_n 3, 0, 0, .null, []) :: (37, .iload 4, 0, 0, .null, []) :: (39, .iadd, 0, 0, .null, []) :: (40, .invokevirtual 193, 19, 1, .ref 1, []) :: (43, .aload_n 0, 0, 0, .null, []) :: (44, .getfield 12, 4, 0, .null, []) :: (47, .iload_n 1, 0, 0, .null, []) :: (48, .iload 4, 0, 0, .null, []) :: (50, .invokevirtual 74, 55, 2, .ref 3, []) :: (53, .if_icmp .eq 5, 58, 0, .null, []) :: (56, .iconst 0, 0, 0, .int 0, []) :: (57, .ireturn, 1, 0, .null, []) :: B4_handEndsWithFieldsOf_58
def B4_handEndsWithFieldsOf_13 : List am_I := (13, .aload_n 0, 0, 0, .null, []) :: (14, .getfield 26, 4, 2, .null, []) :: (17, .invokevirtual 103, 16, 0, .ref 1, []) :: (20, .iload_n 2, 0, 0, .null, []) :: (21, .isub, 0, 0, .null, []) :: (22, .istore_n 3, 0, 0, .null, []) :: (23, .iconst 0, 0, 0, .int 0, []) :: (24, .istore 4, 0, 0, .null, []) :: B4_handEndsWithFieldsOf_26
def B4_handEndsWithFieldsOf_0 : List am_I := (0, .iload_n 2, 0, 0, .null, []) :: (1, .aload_n 0, 0, 0, .null, []) :: (2, .getfield 26, 4, 2, .null, []) :: (5, .invokevirtual 187, 17, 0, .ref 1, []) :: (8, .if_icmp .le 5, 13, 0, .null, []) :: (11, .iconst 0, 0, 0, .int 0, []) :: (12, .ireturn, 1, 0, .null, []) :: B4_handEndsWithFieldsOf_13
set_option maxRecDepth 20000 in
theorem vB4_handEndsWithFieldsOf_64 : am_vl 4 false (some .boolean) cX4_handEndsWithFieldsOf B4_handEndsWithFieldsOf_64 = true := am_vt (tl := []) 2 0 (by decide +kernel) rfl rfl rfl
set_option maxRecDepth 20000 in
theorem vB4_handEndsWithFieldsOf_58 : am_vl 4 false (some .boolean) cX4_handEndsWithFieldsOf B4_handEndsWithFieldsOf_58 = true := am_vt (tl := B4_handEndsWithFieldsOf_64) 2 64 (by decide +kernel) rfl rfl vB4_handEndsWithFieldsOf_64
set_option maxRecDepth 20000 in
theorem vB4_handEndsWithFieldsOf_26 : am_vl 4 false (some .boolean) cX4_handEndsWithFieldsOf B4_handEndsWithFieldsOf_26 = true := am_vt (tl := B4_handEndsWithFieldsOf_58) 17 58 (by decide +kernel) rfl rfl vB4_handEndsWithFieldsOf_58
set_option maxRecDepth 20000 in
theorem vB4_handEndsWithFieldsOf_13 : am_vl 4 false (some .boolean) cX4_handEndsWithFieldsOf B4_handEndsWithFieldsOf_13 = true := am_vt (tl := B4_handEndsWithFieldsOf_26) 8 26 (by decide +kernel) rfl rfl vB4_handEndsWithFieldsOf_26
set_option maxRecDepth 20000 in
theorem vB4_handEndsWithFieldsOf_0 : am_vl 4 false (some .boolean) cX4_handEndsWithFieldsOf B4_handEndsWithFieldsOf_0 = true := am_vt (tl := B4_handEndsWithFieldsOf_13) 7 13 (by decide +kernel) rfl rfl vB4_handEndsWithFieldsOf_13
def B4_makeChoice_91 : List am_I := (91, .ireturn, 0, 0, .null, []) :: []
def B4_makeChoice_47 : List am_I := (47, .aload_n 0, 0, 0, .null, []) :: (48, .getfield 19, 4, 1, .null, []) :: (51, .aload_n 0, 0, 0, .null, []) :: (52, .invokevirtual 131, 96, 0, .ref 4, []) :: (55, .aload_n 0, 0, 0, .null, []) :: (56, .invokevirtual 131, 96, 0, .ref 4, []) :: (59, .iconst 1, 0, 0, .int 1, []) :: (60, .iadd, 0, 0, .null, []) :: (61, .aload_n 0, 0, 0, .null, []) :: (62, .getfield 12, 4, 0, .null, []) :: (65, .iload_n 3, 0, 0, .null, []) :: (66, .invokevirtual 53, 54, 1, .ref 3, []) :: (69, .invokevirtual 113, 31, 3, .ref 2, []) :: (72, .aload_n 0, 0, 0, .null, []) :: (73, .getfield 19, 4, 1, .null, []) :: (76, .aload_n 0, 0, 0, .null, []) :: (77, .invokevirtual 131, 96, 0, .ref 4, []) :: (80, .iload_n 2, 0, 0, .null, []) :: (81, .i2l, 0, 0, .null, []) :: (82, .invokevirtual 117, 30, 2, .ref 2, []) :: (85, .aload_n 0, 0, 0, .null, []) :: (86, .iload_n 1, 0, 0, .null, []) :: (87, .invokevirtual 146, 92, 1, .ref 4, []) :: (90, .iconst 1, 0, 0, .int 1, []) :: B4_makeChoice_91
def B4_makeChoice_34 : List am_I := (34, .iload_n 3, 0, 0, .null, []) :: (35, .aload_n 0, 0, 0, .null, []) :: (36, .getfield 26, 4, 2, .null, []) :: (39, .invokevirtual 128, 20, 0, .ref 1, []) :: (42, .if_icmp .eq 5, 47, 0, .null, []) :: (45, .iconst (-1), 0, 0, .int (-1), []) :: (46, .ireturn, 0, 0, .null, []) :: B4_makeChoice_47
def B4_makeChoice_11 : List am_I := (11, .aload_n 0, 0, 0, .null, []) :: (12, .getfield 12, 4, 0, .null, []) :: (15, .iload_n 1, 0, 0, .null, []) :: (16, .iload_n 2, 0, 0, .null, []) :: (17, .invokevirtual 74, 55, 2, .ref 3, []) :: (20, .istore_n 3, 0, 0, .null, []) :: (21, .iload_n 3, 0, 0, .null, []) :: (22, .iconst (-1), 0, 0, .int (-1), []) :: (23, .if_icmp .ne 11, 34, 0, .null, []) :: (26, .aload_n 0, 0, 0, .null, []) :: (27, .iload_n 1, 0, 0, .null, []) :: (28, .iload_n 2, 0, 0, .null, []) :: (29, .i2l, 0, 0, .null, []) :: (30, .invokevirtual 77, 85, 2, .ref 4, []) :: (33, .ireturn, 0, 0, .null, []) :: B4_makeChoice_34
def B4_makeChoice_9 : List am_I := (9, .iconst (-1), 0, 0, .int (-1), []) :: (10, .ireturn, 0, 0, .null, []) :: B4_makeChoice_11
def B4_makeChoice_0 : List am_I := (0, .iload_n 2, 0, 0, .null, []) :: (1, .ifCond .lt 8, 9, 0, .null, []) :: (4, .iload_n 2, 0, 0, .null, []) :: (5, .iconst 3, 0, 0, .int 3, []) :: (6, .if_icmp .lt 5, 11, 0, .null, []) :: B4_makeChoice_9
set_option maxRecDepth 20000 in
theorem vB4_makeChoice_91 : am_vl 4 false (some .int) cX4_makeChoice B4_makeChoice_91 = true := am_vt (tl := []) 1 0 (by decide +kernel) rfl rfl rfl
set_option maxRecDepth 20000 in
theorem vB4_makeChoice_47 : am_vl 4 false (some .int) cX4_makeChoice B4_makeChoice_47 = true := am_vt (tl := B4_makeChoice_91) 24 91 (by decide +kernel) rfl rfl vB4_makeChoice_91
set_option maxRecDepth 20000 in
theorem vB4_makeChoice_34 : am_vl 4 false (some .int) cX4_makeChoice B4_makeChoice_34 = true := am_vt (tl := B4_makeChoice_47) 7 47 (by decide +kernel) rfl rfl vB4_makeChoice_47
set_option maxRecDepth 20000 in
theorem vB4_makeChoice_11 : am_vl 4 false (some .int) cX4_makeChoice B4_makeChoice_11 = true := am_vt (tl := B4_makeChoice_34) 15 34 (by decide +kernel) rfl rfl vB4_makeChoice_34
set_option maxRecDepth 20000 in
theorem vB4_makeChoice_9 : am_vl 4 false (some .int) cX4_makeChoice B4_makeChoice_9 = true := am_vt (tl := B4_makeChoice_11) 2 11 (by decide +kernel) rfl rfl vB4_makeChoice_11
set_option maxRecDepth 20000 in
theorem vB4_makeChoice_0 : am_vl 4 false (some .int) cX4_makeChoice B4_makeChoice_0 = true := am_vt (tl := B4_makeChoice_9) 5 9 (by decide +kernel) rfl rfl vB4_makeChoice_9
def B4_makeBox_89 : List am_I := (89, .invokevirtual 117, 30, 2, .ref 2, []) :: (92, .aload_n 0, 0, 0, .null, []) :: (93, .iload_n 1, 0, 0, .null, []) :: (94, .invokevirtual 146, 92, 1, .ref 4, []) :: (97, .iconst 1, 0, 0, .int 1, []) :: (98, .ireturn, 0, 0, .null, []) :: []
def B4_makeBox_43 : List am_I := (43, .aload_n 0, 0, 0, .null, []) :: (44, .getfield 19, 4, 1, .null, []) :: (47, .invokevirtual 226, 36, 0, .ref 2, []) :: (50, .istore_n 3, 0, 0, .null, []) :: (51, .aload_n 0, 0, 0, .null, []) :: (52, .getfield 19, 4, 1, .null, []) :: (55, .aload_n 0, 0, 0, .null, []) :: (56, .invokevirtual 131, 96, 0, .ref 4, []) :: (59, .aload_n 0, 0, 0, .null, []) :: (60, .getfield 19, 4, 1, .null, []) :: (63, .iload_n 3, 0, 0, .null, []) :: (64, .i2l, 0, 0, .null, []) :: (65, .invokevirtual 138, 43, 1, .ref 2, []) :: (68, .aload_n 0, 0, 0, .null, []) :: (69, .getfield 12, 4, 0, .null, []) :: (72, .iload_n 2, 0, 0, .null, []) :: (73, .invokevirtual 53, 54, 1, .ref 3, []) :: (76, .invokevirtual 113, 31, 3, .ref 2, []) :: (79, .aload_n 0, 0, 0, .null, []) :: (80, .getfield 19, 4, 1, .null, []) :: (83, .aload_n 0, 0, 0, .null, []) :: (84, .invokevirtual 131, 96, 0, .ref 4, []) :: (87, .iload_n 3, 0, 0, .null, []) :: (88, .i2l, 0, 0, .null, []) :: B4_makeBox_89
def B4_makeBox_28 : List am_I := (28, .aload_n 0, 0, 0, .null, []) :: (29, .getfield 19, 4, 1, .null, []) :: (32, .invokevirtual 211, 34, 0, .ref 2, []) :: (35, .bipush 60, 0, 0, .int 60, []) :: (37, .if_icmp .lt 6, 43, 0, .null, []) :: (40, .bipush (-2), 0, 0, .int (-2), []) :: (42, .ireturn, 0, 0, .null, []) :: B4_makeBox_43
def B4_makeBox_26 : List am_I := (26, .iconst (-1), 0, 0, .int (-1), []) :: (27, .ireturn, 0, 0, .null, []) :: B4_makeBox_28
def B4_makeBox_0 : List am_I := (0, .aload_n 0, 0, 0, .null, []) :: (1, .getfield 12, 4, 0, .null, []) :: (4, .iload_n 1, 0, 0, .null, []) :: (5, .iconst 0, 0, 0, .int 0, []) :: (6, .invokevirtual 74, 55, 2, .ref 3, []) :: (9, .istore_n 2, 0, 0, .null, []) :: (10, .iload_n 2, 0, 0, .null, []) :: (11, .iconst (-1), 0, 0, .int (-1), []) :: (12, .if_icmp .eq 14, 26, 0, .null, []) :: (15, .iload_n 2, 0, 0, .null, []) :: (16, .aload_n 0, 0, 0, .null, []) :: (17, .getfield 26, 4, 2, .null, []) :: (20, .invokevirtual 128, 20, 0, .ref 1, []) :: (23, .if_icmp .eq 5, 28, 0, .null, []) :: B4_makeBox_26
set_option maxRecDepth 20000 in
theorem vB4_makeBox_89 : am_vl 4 false (some .int) cX4_makeBox B4_makeBox_89 = true := am_vt (tl := []) 6 0 (by decide +kernel) rfl rfl rfl
set_option maxRecDepth 20000 in
theorem vB4_makeBox_43 : am_vl 4 false (some .int) cX4_makeBox B4_makeBox_43 = true := am_vt (tl := B4_makeBox_89) 24 89 (by decide +kernel) rfl rfl vB4_makeBox_89
set_option maxRecDepth 20000 in
theorem vB4_makeBox_28 : am_vl 4 false (some .int) cX4_makeBox B4_makeBox_28 = true := am_vt (tl := B4_makeBox_43) 7 43 (by decide +kernel) rfl rfl vB4_makeBox_43
set_option maxRecDepth 20000 in
theorem vB4_makeBox_26 : am_vl 4 false (some .int) cX4_makeBox B4_makeBox_26 = true := am_vt (tl := B4_makeBox_28) 2 28 (by decide +kernel) rfl rfl vB4_makeBox_28
set_option maxRecDepth 20000 in
theorem vB4_makeBox_0 : am_vl 4 false (some .int) cX4_makeBox B4_makeBox_0 = true := am_vt (tl := B4_makeBox_26) 14 26 (by decide +kernel) rfl rfl vB4_makeBox_26
def B4_takeRecordApart_124 : List am_I := (124, .iload_n 2, 0, 0, .null, []) :: (125, .ireturn, 0, 0, .null, []) :: []
def B4_takeRecordApart_101 : List am_I := (101, .iload 6, 0, 0, .null, []) :: (103, .invokevirtual 53, 54, 1, .ref 3, []) :: (106, .iadd, 0, 0, .null, []) :: (107, .istore 4, 0, 0, .null, []) :: (109, .aload_n 0, 0, 0, .null, []) :: (110, .getfield 26, 4, 2, .null, []) :: (113, .iload 6, 0, 0, .null, []) :: (115, .invokevirtual 125, 22, 1, .ref 1, []) :: (118, .iinc 5 1, 0, 0, .int 1, []) :: (121, .goto (-69), 52, 0, .null, []) :: B4_takeRecordApart_124
def B4_takeRecordApart_52 : List am_I := (52, .iload 5, 0, 0, .null, []) :: (54, .iload_n 2, 0, 0, .null, []) :: (55, .if_icmp .ge 69, 124, 0, .null, []) :: (58, .aload_n 0, 0, 0, .null, []) :: (59, .getfield 12, 4, 0, .null, []) :: (62, .iload_n 1, 0, 0, .null, []) :: (63, .iload 5, 0, 0, .null, []) :: (65, .invokevirtual 74, 55, 2, .ref 3, []) :: (68, .istore 6, 0, 0, .null, []) :: (70, .aload_n 0, 0, 0, .null, []) :: (71, .getfield 19, 4, 1, .null, []) :: (74, .iload 4, 0, 0, .null, []) :: (76, .iload_n 3, 0, 0, .null, []) :: (77, .iload 5, 0, 0, .null, []) :: (79, .iadd, 0, 0, .null, []) :: (80, .invokestatic 106, 93, 1, .int 0, []) :: (83, .aload_n 0, 0, 0, .null, []) :: (84, .getfield 12, 4, 0, .null, []) :: (87, .iload 6, 0, 0, .null, []) :: (89, .invokevirtual 53, 54, 1, .ref 3, []) :: (92, .invokevirtual 113, 31, 3, .ref 2, []) :: (95, .iload 4, 0, 0, .null, []) :: (97, .aload_n 0, 0, 0, .null, []) :: (98, .getfield 12, 4, 0, .null, []) :: B4_takeRecordApart_101
def B4_takeRecordApart_25 : List am_I := (25, .aload_n 0, 0, 0, .null, []) :: (26, .getfield 26, 4, 2, .null, []) :: (29, .invokevirtual 103, 16, 0, .ref 1, []) :: (32, .iconst 1, 0, 0, .int 1, []) :: (33, .isub, 0, 0, .null, []) :: (34, .istore_n 3, 0, 0, .null, []) :: (35, .iload_n 3, 0, 0, .null, []) :: (36, .invokestatic 106, 93, 1, .int 0, []) :: (39, .istore 4, 0, 0, .null, []) :: (41, .aload_n 0, 0, 0, .null, []) :: (42, .getfield 26, 4, 2, .null, []) :: (45, .iconst 1, 0, 0, .int 1, []) :: (46, .invokevirtual 121, 23, 1, .ref 1, []) :: (49, .iconst 0, 0, 0, .int 0, []) :: (50, .istore 5, 0, 0, .null, []) :: B4_takeRecordApart_52
def B4_takeRecordApart_0 : List am_I := (0, .aload_n 0, 0, 0, .null, []) :: (1, .getfield 12, 4, 0, .null, []) :: (4, .iload_n 1, 0, 0, .null, []) :: (5, .invokevirtual 220, 56, 1, .ref 3, []) :: (8, .istore_n 2, 0, 0, .null, []) :: (9, .aload_n 0, 0, 0, .null, []) :: (10, .getfield 26, 4, 2, .null, []) :: (13, .iload_n 2, 0, 0, .null, []) :: (14, .iconst 1, 0, 0, .int 1, []) :: (15, .isub, 0, 0, .null, []) :: (16, .invokevirtual 93, 18, 1, .ref 1, []) :: (19, .ifCond .ne 6, 25, 0, .null, []) :: (22, .bipush (-2), 0, 0, .int (-2), []) :: (24, .ireturn, 0, 0, .null, []) :: B4_takeRecordApart_25
set_option maxRecDepth 20000 in
theorem vB4_takeRecordApart_124 : am_vl 4 false (some .int) cX4_takeRecordApart B4_takeRecordApart_124 = true := am_vt (tl := []) 2 0 (by decide +kernel) rfl rfl rfl
set_option maxRecDepth 20000 in
theorem vB4_takeRecordApart_101 : am_vl 4 false (some .int) cX4_takeRecordApart B4_takeRecordApart_101 = true := am_vt (tl := B4_takeRecordApart_124) 10 124 (by decide +kernel) rfl rfl vB4_takeRecordApart_124
set_option maxRecDepth 20000 in
theorem vB4_takeRecordApart_52 : am_vl 4 false (some .int) cX4_takeRecordApart B4_takeRecordApart_52 = true := am_vt (tl := B4_takeRecordApart_101) 24 101 (by decide +kernel) rfl rfl vB4_takeRecordApart_101
set_option maxRecDepth 20000 in
theorem vB4_takeRecordApart_25 : am_vl 4 false (some .int) cX4_takeRecordApart B4_takeRecordApart_25 = true := am_vt (tl := B4_takeRecordApart_52) 15 52 (by decide +kernel) rfl rfl vB4_takeRecordApart_52
set_option maxRecDepth 20000 in
theorem vB4_takeRecordApart_0 : am_vl 4 false (some .int) cX4_takeRecordApart B4_takeRecordApart_0 = true := am_vt (tl := B4_takeRecordApart_25) 14 25 (by decide +kernel) rfl rfl vB4_takeRecordApart_25
def B4_takeChoiceApart_36 : List am_I := (36, .aload_n 0, 0, 0, .null, []) :: (37, .getfield 19, 4, 1, .null, []) :: (40, .aload_n 0, 0, 0, .null, []) :: (41, .invokevirtual 131, 96, 0, .ref 4, []) :: (44, .iconst 1, 0, 0, .int 1, []) :: (45, .iadd, 0, 0, .null, []) :: (46, .aload_n 0, 0, 0, .null, []) :: (47, .invokevirtual 131, 96, 0, .ref 4, []) :: (50, .aload_n 0, 0, 0, .null, []) :: (51, .getfield 12, 4, 0, .null, []) :: (54, .iload_n 2, 0, 0, .null, []) :: (55, .invokevirtual 53, 54, 1, .ref 3, []) :: (58, .invokevirtual 113, 31, 3, .ref 2, []) :: (61, .aload_n 0, 0, 0, .null, []) :: (62, .iload_n 2, 0, 0, .null, []) :: (63, .invokevirtual 146, 92, 1, .ref 4, []) :: (66, .iconst 1, 0, 0, .int 1, []) :: (67, .ireturn, 0, 0, .null, []) :: []
def B4_takeChoiceApart_0 : List am_I := (0, .aload_n 0, 0, 0, .null, []) :: (1, .getfield 12, 4, 0, .null, []) :: (4, .iload_n 1, 0, 0, .null, []) :: (5, .aload_n 0, 0, 0, .null, []) :: (6, .getfield 19, 4, 1, .null, []) :: (9, .aload_n 0, 0, 0, .null, []) :: (10, .invokevirtual 131, 96, 0, .ref 4, []) :: (13, .invokevirtual 134, 29, 1, .ref 2, []) :: (16, .l2i, 0, 0, .null, []) :: (17, .invokevirtual 74, 55, 2, .ref 3, []) :: (20, .istore_n 2, 0, 0, .null, []) :: (21, .iload_n 2, 0, 0, .null, []) :: (22, .iconst (-1), 0, 0, .int (-1), []) :: (23, .if_icmp .ne 13, 36, 0, .null, []) :: (26, .aload_n 0, 0, 0, .null, []) :: (27, .getfield 26, 4, 2, .null, []) :: (30, .iconst 1, 0, 0, .int 1, []) :: (31, .invokevirtual 121, 23, 1, .ref 1, []) :: (34, .iconst 0, 0, 0, .int 0, []) :: (35, .ireturn, 0, 0, .null, []) :: B4_takeChoiceApart_36
set_option maxRecDepth 20000 in
theorem vB4_takeChoiceApart_36 : am_vl 4 false (some .int) cX4_takeChoiceApart B4_takeChoiceApart_36 = true := am_vt (tl := []) 18 0 (by decide +kernel) rfl rfl rfl
set_option maxRecDepth 20000 in
theorem vB4_takeChoiceApart_0 : am_vl 4 false (some .int) cX4_takeChoiceApart B4_takeChoiceApart_0 = true := am_vt (tl := B4_takeChoiceApart_36) 20 36 (by decide +kernel) rfl rfl vB4_takeChoiceApart_36
def B4_replaceTopShape_0 : List am_I := (0, .aload_n 0, 0, 0, .null, []) :: (1, .getfield 26, 4, 2, .null, []) :: (4, .iconst 1, 0, 0, .int 1, []) :: (5, .invokevirtual 121, 23, 1, .ref 1, []) :: (8, .aload_n 0, 0, 0, .null, []) :: (9, .getfield 26, 4, 2, .null, []) :: (12, .iload_n 1, 0, 0, .null, []) :: (13, .invokevirtual 125, 22, 1, .ref 1, []) :: (16, .return_, 0, 0, .null, []) :: []
set_option maxRecDepth 20000 in
theorem vB4_replaceTopShape_0 : am_vl 4 false none cX4_replaceTopShape B4_replaceTopShape_0 = true := am_vt (tl := []) 9 0 (by decide +kernel) rfl rfl rfl
def B4_handAt_0 : List am_I := (0, .iconst 0, 0, 0, .int 0, []) :: (1, .iload_n 0, 0, 0, .null, []) :: (2, .bipush 8, 0, 0, .int 8, []) :: (4, .imul, 0, 0, .null, []) :: (5, .iadd, 0, 0, .null, []) :: (6, .ireturn, 0, 0, .null, []) :: []
set_option maxRecDepth 20000 in
theorem vB4_handAt_0 : am_vl 4 false (some .int) cX4_handAt B4_handAt_0 = true := am_vt (tl := []) 6 0 (by decide +kernel) rfl rfl rfl
def B4_slotAt_0 : List am_I := (0, .sipush 192, 0, 0, .int 192, []) :: (3, .iload_n 0, 0, 0, .null, []) :: (4, .bipush 8, 0, 0, .int 8, []) :: (6, .imul, 0, 0, .null, []) :: (7, .iload_n 1, 0, 0, .null, []) :: (8, .iadd, 0, 0, .null, []) :: (9, .bipush 8, 0, 0, .int 8, []) :: (11, .imul, 0, 0, .null, []) :: (12, .iadd, 0, 0, .null, []) :: (13, .ireturn, 0, 0, .null, []) :: []
set_option maxRecDepth 20000 in
theorem vB4_slotAt_0 : am_vl 4 false (some .int) cX4_slotAt B4_slotAt_0 = true := am_vt (tl := []) 10 0 (by decide +kernel) rfl rfl rfl
def B4_isSlot_15 : List am_I := (15, .ireturn, 1, 0, .null, []) :: []
def B4_isSlot_14 : List am_I := (14, .iconst 0, 0, 0, .int 0, []) :: B4_isSlot_15
def B4_isSlot_0 : List am_I := (0, .iload_n 0, 0, 0, .null, []) :: (1, .ifCond .lt 13, 14, 0, .null, []) :: (4, .iload_n 0, 0, 0, .null, []) :: (5, .bipush 8, 0, 0, .int 8, []) :: (7, .if_icmp .ge 7, 14, 0, .null, []) :: (10, .iconst 1, 0, 0, .int 1, []) :: (11, .goto 4, 15, 0, .null, []) :: B4_isSlot_14
set_option maxRecDepth 20000 in
theorem vB4_isSlot_15 : am_vl 4 false (some .boolean) cX4_isSlot B4_isSlot_15 = true := am_vt (tl := []) 1 0 (by decide +kernel) rfl rfl rfl
set_option maxRecDepth 20000 in
theorem vB4_isSlot_14 : am_vl 4 false (some .boolean) cX4_isSlot B4_isSlot_14 = true := am_vt (tl := B4_isSlot_15) 1 15 (by decide +kernel) rfl rfl vB4_isSlot_15
set_option maxRecDepth 20000 in
theorem vB4_isSlot_0 : am_vl 4 false (some .boolean) cX4_isSlot B4_isSlot_0 = true := am_vt (tl := B4_isSlot_14) 7 14 (by decide +kernel) rfl rfl vB4_isSlot_14
def B4_topAt_0 : List am_I := (0, .aload_n 0, 0, 0, .null, []) :: (1, .getfield 26, 4, 2, .null, []) :: (4, .invokevirtual 103, 16, 0, .ref 1, []) :: (7, .iconst 1, 0, 0, .int 1, []) :: (8, .isub, 0, 0, .null, []) :: (9, .invokestatic 106, 93, 1, .int 0, []) :: (12, .ireturn, 0, 0, .null, []) :: []
set_option maxRecDepth 20000 in
theorem vB4_topAt_0 : am_vl 4 false (some .int) cX4_topAt B4_topAt_0 = true := am_vt (tl := []) 7 0 (by decide +kernel) rfl rfl rfl
def B4_seek_84 : List am_I := (84, .iload_n 3, 0, 0, .null, []) :: (85, .ireturn, 0, 0, .null, []) :: []
def B4_seek_49 : List am_I := (49, .iload 5, 0, 0, .null, []) :: (51, .bipush 6, 0, 0, .int 6, []) :: (53, .if_icmp .ge 31, 84, 0, .null, []) :: (56, .iload 4, 0, 0, .null, []) :: (58, .ifCond .eq 26, 84, 0, .null, []) :: (61, .aload_n 0, 0, 0, .null, []) :: (62, .iload_n 3, 0, 0, .null, []) :: (63, .iload 4, 0, 0, .null, []) :: (65, .bipush 15, 0, 0, .int 15, []) :: (67, .iand, 0, 0, .null, []) :: (68, .invokevirtual 230, 98, 2, .ref 4, []) :: (71, .istore_n 3, 0, 0, .null, []) :: (72, .iload 4, 0, 0, .null, []) :: (74, .iconst 4, 0, 0, .int 4, []) :: (75, .ishr, 0, 0, .null, []) :: (76, .istore 4, 0, 0, .null, []) :: (78, .iinc 5 1, 0, 0, .int 1, []) :: (81, .goto (-32), 49, 0, .null, []) :: B4_seek_84
def B4_seek_12 : List am_I := (12, .aload_n 0, 0, 0, .null, []) :: (13, .getfield 26, 4, 2, .null, []) :: (16, .aload_n 0, 0, 0, .null, []) :: (17, .getfield 26, 4, 2, .null, []) :: (20, .invokevirtual 162, 13, 0, .ref 1, []) :: (23, .iload_n 1, 0, 0, .null, []) :: (24, .invokevirtual 165, 24, 2, .ref 1, []) :: (27, .istore_n 3, 0, 0, .null, []) :: (28, .aload_n 0, 0, 0, .null, []) :: (29, .aload_n 0, 0, 0, .null, []) :: (30, .getfield 26, 4, 2, .null, []) :: (33, .invokevirtual 162, 13, 0, .ref 1, []) :: (36, .iload_n 1, 0, 0, .null, []) :: (37, .invokestatic 168, 94, 2, .int 0, []) :: (40, .putfield 43, 4, 5, .null, []) :: (43, .iload_n 2, 0, 0, .null, []) :: (44, .istore 4, 0, 0, .null, []) :: (46, .iconst 0, 0, 0, .int 0, []) :: (47, .istore 5, 0, 0, .null, []) :: B4_seek_49
def B4_seek_10 : List am_I := (10, .iconst (-1), 0, 0, .int (-1), []) :: (11, .ireturn, 0, 0, .null, []) :: B4_seek_12
def B4_seek_0 : List am_I := (0, .iload_n 2, 0, 0, .null, []) :: (1, .ifCond .lt 9, 10, 0, .null, []) :: (4, .iload_n 2, 0, 0, .null, []) :: (5, .ldc 229, 0, 0, .int 16777215, []) :: (7, .if_icmp .le 5, 12, 0, .null, []) :: B4_seek_10
set_option maxRecDepth 20000 in
theorem vB4_seek_84 : am_vl 4 false (some .int) cX4_seek B4_seek_84 = true := am_vt (tl := []) 2 0 (by decide +kernel) rfl rfl rfl
set_option maxRecDepth 20000 in
theorem vB4_seek_49 : am_vl 4 false (some .int) cX4_seek B4_seek_49 = true := am_vt (tl := B4_seek_84) 18 84 (by decide +kernel) rfl rfl vB4_seek_84
set_option maxRecDepth 20000 in
theorem vB4_seek_12 : am_vl 4 false (some .int) cX4_seek B4_seek_12 = true := am_vt (tl := B4_seek_49) 19 49 (by decide +kernel) rfl rfl vB4_seek_49
set_option maxRecDepth 20000 in
theorem vB4_seek_10 : am_vl 4 false (some .int) cX4_seek B4_seek_10 = true := am_vt (tl := B4_seek_12) 2 12 (by decide +kernel) rfl rfl vB4_seek_12
set_option maxRecDepth 20000 in
theorem vB4_seek_0 : am_vl 4 false (some .int) cX4_seek B4_seek_0 = true := am_vt (tl := B4_seek_10) 5 10 (by decide +kernel) rfl rfl vB4_seek_10
def B4_step_94 : List am_I := (94, .iconst (-1), 0, 0, .int (-1), []) :: (95, .ireturn, 0, 0, .null, []) :: []
def B4_step_84 : List am_I := (84, .aload_n 0, 0, 0, .null, []) :: (85, .iload_n 1, 0, 0, .null, []) :: (86, .iload_n 2, 0, 0, .null, []) :: (87, .bipush 8, 0, 0, .int 8, []) :: (89, .isub, 0, 0, .null, []) :: (90, .invokevirtual 242, 102, 2, .ref 4, []) :: (93, .ireturn, 0, 0, .null, []) :: B4_step_94
def B4_step_83 : List am_I := (83, .ireturn, 0, 0, .null, []) :: B4_step_84
def B4_step_82 : List am_I := (82, .iconst (-1), 0, 0, .int (-1), []) :: B4_step_83
def B4_step_69 : List am_I := (69, .iload_n 2, 0, 0, .null, []) :: (70, .iconst 5, 0, 0, .int 5, []) :: (71, .if_icmp .ne 11, 82, 0, .null, []) :: (74, .aload_n 0, 0, 0, .null, []) :: (75, .iload_n 1, 0, 0, .null, []) :: (76, .invokevirtual 239, 101, 1, .ref 4, []) :: (79, .goto 4, 83, 0, .null, []) :: B4_step_82
def B4_step_68 : List am_I := (68, .ireturn, 0, 0, .null, []) :: B4_step_69
def B4_step_67 : List am_I := (67, .iconst (-1), 0, 0, .int (-1), []) :: B4_step_68
def B4_step_53 : List am_I := (53, .iload_n 2, 0, 0, .null, []) :: (54, .bipush 6, 0, 0, .int 6, []) :: (56, .if_icmp .ne 11, 67, 0, .null, []) :: (59, .aload_n 0, 0, 0, .null, []) :: (60, .iload_n 1, 0, 0, .null, []) :: (61, .invokevirtual 236, 100, 1, .ref 4, []) :: (64, .goto 4, 68, 0, .null, []) :: B4_step_67
def B4_step_44 : List am_I := (44, .aload_n 0, 0, 0, .null, []) :: (45, .iload_n 1, 0, 0, .null, []) :: (46, .iload_n 2, 0, 0, .null, []) :: (47, .iconst 1, 0, 0, .int 1, []) :: (48, .isub, 0, 0, .null, []) :: (49, .invokevirtual 233, 99, 2, .ref 4, []) :: (52, .ireturn, 0, 0, .null, []) :: B4_step_53
def B4_step_0 : List am_I := (0, .aload_n 0, 0, 0, .null, []) :: (1, .getfield 12, 4, 0, .null, []) :: (4, .iload_n 1, 0, 0, .null, []) :: (5, .invokevirtual 71, 53, 1, .ref 3, []) :: (8, .tableswitch 86 1 5 #[36, 36, 45, 61, 76], 94, 0, .null, [(1, 44), (2, 44), (3, 53), (4, 69), (5, 84)]) :: B4_step_44
set_option maxRecDepth 20000 in
theorem vB4_step_94 : am_vl 4 false (some .int) cX4_step B4_step_94 = true := am_vt (tl := []) 2 0 (by decide +kernel) rfl rfl rfl
set_option maxRecDepth 20000 in
theorem vB4_step_84 : am_vl 4 false (some .int) cX4_step B4_step_84 = true := am_vt (tl := B4_step_94) 7 94 (by decide +kernel) rfl rfl vB4_step_94
set_option maxRecDepth 20000 in
theorem vB4_step_83 : am_vl 4 false (some .int) cX4_step B4_step_83 = true := am_vt (tl := B4_step_84) 1 84 (by decide +kernel) rfl rfl vB4_step_84
set_option maxRecDepth 20000 in
theorem vB4_step_82 : am_vl 4 false (some .int) cX4_step B4_step_82 = true := am_vt (tl := B4_step_83) 1 83 (by decide +kernel) rfl rfl vB4_step_83
set_option maxRecDepth 20000 in
theorem vB4_step_69 : am_vl 4 false (some .int) cX4_step B4_step_69 = true := am_vt (tl := B4_step_82) 7 82 (by decide +kernel) rfl rfl vB4_step_82
set_option maxRecDepth 20000 in
theorem vB4_step_68 : am_vl 4 false (some .int) cX4_step B4_step_68 = true := am_vt (tl := B4_step_69) 1 69 (by decide +kernel) rfl rfl vB4_step_69
set_option maxRecDepth 20000 in
theorem vB4_step_67 : am_vl 4 false (some .int) cX4_step B4_step_67 = true := am_vt (tl := B4_step_68) 1 68 (by decide +kernel) rfl rfl vB4_step_68
set_option maxRecDepth 20000 in
theorem vB4_step_53 : am_vl 4 false (some .int) cX4_step B4_step_53 = true := am_vt (tl := B4_step_67) 7 67 (by decide +kernel) rfl rfl vB4_step_67
set_option maxRecDepth 20000 in
theorem vB4_step_44 : am_vl 4 false (some .int) cX4_step B4_step_44 = true := am_vt (tl := B4_step_53) 7 53 (by decide +kernel) rfl rfl vB4_step_53
set_option maxRecDepth 20000 in
theorem vB4_step_0 : am_vl 4 false (some .int) cX4_step B4_step_0 = true := am_vt (tl := B4_step_44) 5 44 (by decide +kernel) rfl rfl vB4_step_44
def B4_stepToField_0 : List am_I := (0, .aload_n 0, 0, 0, .null, []) :: (1, .dup, 0, 0, .null, []) :: (2, .getfield 43, 4, 5, .null, []) :: (5, .aload_n 0, 0, 0, .null, []) :: (6, .getfield 12, 4, 0, .null, []) :: (9, .iload_n 1, 0, 0, .null, []) :: (10, .iload_n 2, 0, 0, .null, []) :: (11, .invokevirtual 245, 57, 2, .ref 3, []) :: (14, .iadd, 0, 0, .null, []) :: (15, .putfield 43, 4, 5, .null, []) :: (18, .aload_n 0, 0, 0, .null, []) :: (19, .getfield 12, 4, 0, .null, []) :: (22, .iload_n 1, 0, 0, .null, []) :: (23, .iload_n 2, 0, 0, .null, []) :: (24, .invokevirtual 74, 55, 2, .ref 3, []) :: (27, .ireturn, 0, 0, .null, []) :: []
set_option maxRecDepth 20000 in
theorem vB4_stepToField_0 : am_vl 4 false (some .int) cX4_stepToField B4_stepToField_0 = true := am_vt (tl := []) 16 0 (by decide +kernel) rfl rfl rfl
def B4_stepToPart_0 : List am_I := (0, .aload_n 0, 0, 0, .null, []) :: (1, .getfield 12, 4, 0, .null, []) :: (4, .iload_n 1, 0, 0, .null, []) :: (5, .aload_n 0, 0, 0, .null, []) :: (6, .getfield 19, 4, 1, .null, []) :: (9, .aload_n 0, 0, 0, .null, []) :: (10, .getfield 43, 4, 5, .null, []) :: (13, .invokevirtual 134, 29, 1, .ref 2, []) :: (16, .l2i, 0, 0, .null, []) :: (17, .invokevirtual 74, 55, 2, .ref 3, []) :: (20, .istore_n 2, 0, 0, .null, []) :: (21, .aload_n 0, 0, 0, .null, []) :: (22, .dup, 0, 0, .null, []) :: (23, .getfield 43, 4, 5, .null, []) :: (26, .iconst 1, 0, 0, .int 1, []) :: (27, .iadd, 0, 0, .null, []) :: (28, .putfield 43, 4, 5, .null, []) :: (31, .iload_n 2, 0, 0, .null, []) :: (32, .ireturn, 0, 0, .null, []) :: []
set_option maxRecDepth 20000 in
theorem vB4_stepToPart_0 : am_vl 4 false (some .int) cX4_stepToPart B4_stepToPart_0 = true := am_vt (tl := []) 19 0 (by decide +kernel) rfl rfl rfl
def B4_stepIntoBox_0 : List am_I := (0, .aload_n 0, 0, 0, .null, []) :: (1, .aload_n 0, 0, 0, .null, []) :: (2, .getfield 19, 4, 1, .null, []) :: (5, .aload_n 0, 0, 0, .null, []) :: (6, .getfield 19, 4, 1, .null, []) :: (9, .aload_n 0, 0, 0, .null, []) :: (10, .getfield 43, 4, 5, .null, []) :: (13, .invokevirtual 134, 29, 1, .ref 2, []) :: (16, .invokevirtual 138, 43, 1, .ref 2, []) :: (19, .putfield 43, 4, 5, .null, []) :: (22, .aload_n 0, 0, 0, .null, []) :: (23, .getfield 12, 4, 0, .null, []) :: (26, .iload_n 1, 0, 0, .null, []) :: (27, .iconst 0, 0, 0, .int 0, []) :: (28, .invokevirtual 74, 55, 2, .ref 3, []) :: (31, .ireturn, 0, 0, .null, []) :: []
set_option maxRecDepth 20000 in
theorem vB4_stepIntoBox_0 : am_vl 4 false (some .int) cX4_stepIntoBox B4_stepIntoBox_0 = true := am_vt (tl := []) 16 0 (by decide +kernel) rfl rfl rfl
def B4_stepToElement_30 : List am_I := (30, .aload_n 0, 0, 0, .null, []) :: (31, .aload_n 0, 0, 0, .null, []) :: (32, .getfield 19, 4, 1, .null, []) :: (35, .lload_n 3, 0, 0, .null, []) :: (36, .iload_n 2, 0, 0, .null, []) :: (37, .invokevirtual 109, 44, 2, .ref 2, []) :: (40, .putfield 43, 4, 5, .null, []) :: (43, .aload_n 0, 0, 0, .null, []) :: (44, .getfield 12, 4, 0, .null, []) :: (47, .iload_n 1, 0, 0, .null, []) :: (48, .iconst 0, 0, 0, .int 0, []) :: (49, .invokevirtual 74, 55, 2, .ref 3, []) :: (52, .ireturn, 0, 0, .null, []) :: []
def B4_stepToElement_28 : List am_I := (28, .iconst (-1), 0, 0, .int (-1), []) :: (29, .ireturn, 0, 0, .null, []) :: B4_stepToElement_30
def B4_stepToElement_0 : List am_I := (0, .aload_n 0, 0, 0, .null, []) :: (1, .getfield 19, 4, 1, .null, []) :: (4, .aload_n 0, 0, 0, .null, []) :: (5, .getfield 43, 4, 5, .null, []) :: (8, .invokevirtual 134, 29, 1, .ref 2, []) :: (11, .lstore_n 3, 0, 0, .null, []) :: (12, .iload_n 2, 0, 0, .null, []) :: (13, .ifCond .lt 15, 28, 0, .null, []) :: (16, .iload_n 2, 0, 0, .null, []) :: (17, .aload_n 0, 0, 0, .null, []) :: (18, .getfield 19, 4, 1, .null, []) :: (21, .lload_n 3, 0, 0, .null, []) :: (22, .invokevirtual 180, 45, 1, .ref 2, []) :: (25, .if_icmp .lt 5, 30, 0, .null, []) :: B4_stepToElement_28
set_option maxRecDepth 20000 in
theorem vB4_stepToElement_30 : am_vl 4 false (some .int) cX4_stepToElement B4_stepToElement_30 = true := am_vt (tl := []) 13 0 (by decide +kernel) rfl rfl rfl
set_option maxRecDepth 20000 in
theorem vB4_stepToElement_28 : am_vl 4 false (some .int) cX4_stepToElement B4_stepToElement_28 = true := am_vt (tl := B4_stepToElement_30) 2 30 (by decide +kernel) rfl rfl vB4_stepToElement_30
set_option maxRecDepth 20000 in
theorem vB4_stepToElement_0 : am_vl 4 false (some .int) cX4_stepToElement B4_stepToElement_0 = true := am_vt (tl := B4_stepToElement_28) 14 28 (by decide +kernel) rfl rfl vB4_stepToElement_28
def B4_endLastFrame_119 : List am_I := (119, .aload_n 0, 0, 0, .null, []) :: (120, .getfield 26, 4, 2, .null, []) :: (123, .aload_n 0, 0, 0, .null, []) :: (124, .getfield 26, 4, 2, .null, []) :: (127, .invokevirtual 187, 17, 0, .ref 1, []) :: (130, .invokevirtual 121, 23, 1, .ref 1, []) :: (133, .aload_n 0, 0, 0, .null, []) :: (134, .getfield 26, 4, 2, .null, []) :: (137, .invokevirtual 248, 15, 0, .ref 1, []) :: (140, .return_, 0, 0, .null, []) :: []
def B4_endLastFrame_74 : List am_I := (74, .iload 4, 0, 0, .null, []) :: (76, .ifCond .lt 43, 119, 0, .null, []) :: (79, .aload_n 0, 0, 0, .null, []) :: (80, .getfield 35, 4, 3, .null, []) :: (83, .aload_n 0, 0, 0, .null, []) :: (84, .getfield 26, 4, 2, .null, []) :: (87, .iload_n 2, 0, 0, .null, []) :: (88, .iload 4, 0, 0, .null, []) :: (90, .invokevirtual 165, 24, 2, .ref 1, []) :: (93, .iload_n 2, 0, 0, .null, []) :: (94, .iload 4, 0, 0, .null, []) :: (96, .invokestatic 168, 94, 2, .int 0, []) :: (99, .invokevirtual 155, 4, 2, .ref 0, []) :: (102, .aload_n 0, 0, 0, .null, []) :: (103, .getfield 26, 4, 2, .null, []) :: (106, .iload_n 2, 0, 0, .null, []) :: (107, .iload 4, 0, 0, .null, []) :: (109, .iconst (-1), 0, 0, .int (-1), []) :: (110, .invokevirtual 171, 25, 3, .ref 1, []) :: (113, .iinc 4 (-1), 0, 0, .int (-1), []) :: (116, .goto (-42), 74, 0, .null, []) :: B4_endLastFrame_119
def B4_endLastFrame_70 : List am_I := (70, .bipush 7, 0, 0, .int 7, []) :: (72, .istore 4, 0, 0, .null, []) :: B4_endLastFrame_74
def B4_endLastFrame_37 : List am_I := (37, .iload 4, 0, 0, .null, []) :: (39, .iload_n 3, 0, 0, .null, []) :: (40, .if_icmp .lt 30, 70, 0, .null, []) :: (43, .aload_n 0, 0, 0, .null, []) :: (44, .getfield 35, 4, 3, .null, []) :: (47, .aload_n 0, 0, 0, .null, []) :: (48, .getfield 26, 4, 2, .null, []) :: (51, .iload 4, 0, 0, .null, []) :: (53, .invokevirtual 193, 19, 1, .ref 1, []) :: (56, .iload 4, 0, 0, .null, []) :: (58, .invokestatic 106, 93, 1, .int 0, []) :: (61, .invokevirtual 155, 4, 2, .ref 0, []) :: (64, .iinc 4 (-1), 0, 0, .int (-1), []) :: (67, .goto (-30), 37, 0, .null, []) :: B4_endLastFrame_70
def B4_endLastFrame_0 : List am_I := (0, .aload_n 0, 0, 0, .null, []) :: (1, .getfield 26, 4, 2, .null, []) :: (4, .invokevirtual 162, 13, 0, .ref 1, []) :: (7, .istore_n 2, 0, 0, .null, []) :: (8, .aload_n 0, 0, 0, .null, []) :: (9, .getfield 26, 4, 2, .null, []) :: (12, .invokevirtual 103, 16, 0, .ref 1, []) :: (15, .aload_n 0, 0, 0, .null, []) :: (16, .getfield 26, 4, 2, .null, []) :: (19, .invokevirtual 187, 17, 0, .ref 1, []) :: (22, .isub, 0, 0, .null, []) :: (23, .istore_n 3, 0, 0, .null, []) :: (24, .aload_n 0, 0, 0, .null, []) :: (25, .getfield 26, 4, 2, .null, []) :: (28, .invokevirtual 103, 16, 0, .ref 1, []) :: (31, .iconst 1, 0, 0, .int 1, []) :: (32, .isub, 0, 0, .null, []) :: (33, .iload_n 1, 0, 0, .null, []) :: (34, .isub, 0, 0, .null, []) :: (35, .istore 4, 0, 0, .null, []) :: B4_endLastFrame_37
set_option maxRecDepth 20000 in
theorem vB4_endLastFrame_119 : am_vl 4 false none cX4_endLastFrame B4_endLastFrame_119 = true := am_vt (tl := []) 10 0 (by decide +kernel) rfl rfl rfl
set_option maxRecDepth 20000 in
theorem vB4_endLastFrame_74 : am_vl 4 false none cX4_endLastFrame B4_endLastFrame_74 = true := am_vt (tl := B4_endLastFrame_119) 21 119 (by decide +kernel) rfl rfl vB4_endLastFrame_119
set_option maxRecDepth 20000 in
theorem vB4_endLastFrame_70 : am_vl 4 false none cX4_endLastFrame B4_endLastFrame_70 = true := am_vt (tl := B4_endLastFrame_74) 2 74 (by decide +kernel) rfl rfl vB4_endLastFrame_74
set_option maxRecDepth 20000 in
theorem vB4_endLastFrame_37 : am_vl 4 false none cX4_endLastFrame B4_endLastFrame_37 = true := am_vt (tl := B4_endLastFrame_70) 14 70 (by decide +kernel) rfl rfl vB4_endLastFrame_70
set_option maxRecDepth 20000 in
theorem vB4_endLastFrame_0 : am_vl 4 false none cX4_endLastFrame B4_endLastFrame_0 = true := am_vt (tl := B4_endLastFrame_37) 20 37 (by decide +kernel) rfl rfl vB4_endLastFrame_37
