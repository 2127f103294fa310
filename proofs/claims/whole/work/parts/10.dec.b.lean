theorem eX6_begin_0 : mn_dec cX6_begin 0 = some (1, [], .aload 0) := by decide +kernel
theorem eX6_begin_1 : mn_dec cX6_begin 1 = some (2, [], .iconst 0) := by decide +kernel
theorem eX6_begin_2 : mn_dec cX6_begin 2 = some (3, [], .iload 1) := by decide +kernel
theorem eX6_begin_3 : mn_dec cX6_begin 3 = some (5, [], .iconst 6) := by decide +kernel
theorem eX6_begin_5 : mn_dec cX6_begin 5 = some (8, [], .invokestatic 27) := by decide +kernel
theorem eX6_begin_8 : mn_dec cX6_begin 8 = some (11, [], .invokestatic 33) := by decide +kernel
theorem eX6_begin_11 : mn_dec cX6_begin 11 = some (14, [], .putfield 23) := by decide +kernel
theorem eX6_begin_14 : mn_dec cX6_begin 14 = some (15, [], .iconst 0) := by decide +kernel
theorem eX6_begin_15 : mn_dec cX6_begin 15 = some (16, [], .istore 2) := by decide +kernel
theorem eX6_begin_16 : mn_dec cX6_begin 16 = some (17, [], .iload 2) := by decide +kernel
theorem eX6_begin_17 : mn_dec cX6_begin 17 = some (19, [], .iconst 6) := by decide +kernel
theorem eX6_begin_19 : mn_dec cX6_begin 19 = some (22, [58], .if_icmp .ge 39) := by decide +kernel
theorem eX6_begin_22 : mn_dec cX6_begin 22 = some (23, [], .aload 0) := by decide +kernel
theorem eX6_begin_23 : mn_dec cX6_begin 23 = some (26, [], .getfield 16) := by decide +kernel
theorem eX6_begin_26 : mn_dec cX6_begin 26 = some (27, [], .iload 2) := by decide +kernel
theorem eX6_begin_27 : mn_dec cX6_begin 27 = some (28, [], .lconst 0) := by decide +kernel
theorem eX6_begin_28 : mn_dec cX6_begin 28 = some (29, [], .lastore) := by decide +kernel
theorem eX6_begin_29 : mn_dec cX6_begin 29 = some (30, [], .iconst 0) := by decide +kernel
theorem eX6_begin_30 : mn_dec cX6_begin 30 = some (31, [], .istore 3) := by decide +kernel
theorem eX6_begin_31 : mn_dec cX6_begin 31 = some (32, [], .iload 3) := by decide +kernel
theorem eX6_begin_32 : mn_dec cX6_begin 32 = some (34, [], .iconst 6) := by decide +kernel
theorem eX6_begin_34 : mn_dec cX6_begin 34 = some (37, [52], .if_icmp .ge 18) := by decide +kernel
theorem eX6_begin_37 : mn_dec cX6_begin 37 = some (38, [], .aload 0) := by decide +kernel
theorem eX6_begin_38 : mn_dec cX6_begin 38 = some (41, [], .getfield 11) := by decide +kernel
theorem eX6_begin_41 : mn_dec cX6_begin 41 = some (42, [], .iload 2) := by decide +kernel
theorem eX6_begin_42 : mn_dec cX6_begin 42 = some (43, [], .aaload) := by decide +kernel
theorem eX6_begin_43 : mn_dec cX6_begin 43 = some (44, [], .iload 3) := by decide +kernel
theorem eX6_begin_44 : mn_dec cX6_begin 44 = some (45, [], .lconst 0) := by decide +kernel
theorem eX6_begin_45 : mn_dec cX6_begin 45 = some (46, [], .lastore) := by decide +kernel
theorem eX6_begin_46 : mn_dec cX6_begin 46 = some (49, [], .iinc 3 1) := by decide +kernel
theorem eX6_begin_49 : mn_dec cX6_begin 49 = some (52, [31], .goto (-18)) := by decide +kernel
theorem eX6_begin_52 : mn_dec cX6_begin 52 = some (55, [], .iinc 2 1) := by decide +kernel
theorem eX6_begin_55 : mn_dec cX6_begin 55 = some (58, [16], .goto (-39)) := by decide +kernel
theorem eX6_begin_58 : mn_dec cX6_begin 58 = some (59, [], .return_) := by decide +kernel
theorem eX6_add_0 : mn_dec cX6_add 0 = some (1, [], .aload 0) := by decide +kernel
theorem eX6_add_1 : mn_dec cX6_add 1 = some (2, [], .iload 1) := by decide +kernel
theorem eX6_add_2 : mn_dec cX6_add 2 = some (5, [], .invokevirtual 36) := by decide +kernel
theorem eX6_add_5 : mn_dec cX6_add 5 = some (8, [28], .ifCond .eq 23) := by decide +kernel
theorem eX6_add_8 : mn_dec cX6_add 8 = some (9, [], .aload 0) := by decide +kernel
theorem eX6_add_9 : mn_dec cX6_add 9 = some (10, [], .iload 2) := by decide +kernel
theorem eX6_add_10 : mn_dec cX6_add 10 = some (13, [], .invokevirtual 36) := by decide +kernel
theorem eX6_add_13 : mn_dec cX6_add 13 = some (16, [28], .ifCond .eq 15) := by decide +kernel
theorem eX6_add_16 : mn_dec cX6_add 16 = some (17, [], .aload 0) := by decide +kernel
theorem eX6_add_17 : mn_dec cX6_add 17 = some (20, [], .getfield 11) := by decide +kernel
theorem eX6_add_20 : mn_dec cX6_add 20 = some (21, [], .iload 1) := by decide +kernel
theorem eX6_add_21 : mn_dec cX6_add 21 = some (22, [], .aaload) := by decide +kernel
theorem eX6_add_22 : mn_dec cX6_add 22 = some (23, [], .iload 2) := by decide +kernel
theorem eX6_add_23 : mn_dec cX6_add 23 = some (24, [], .dup2) := by decide +kernel
theorem eX6_add_24 : mn_dec cX6_add 24 = some (25, [], .laload) := by decide +kernel
theorem eX6_add_25 : mn_dec cX6_add 25 = some (26, [], .lload 3) := by decide +kernel
theorem eX6_add_26 : mn_dec cX6_add 26 = some (27, [], .ladd) := by decide +kernel
theorem eX6_add_27 : mn_dec cX6_add 27 = some (28, [], .lastore) := by decide +kernel
theorem eX6_add_28 : mn_dec cX6_add 28 = some (29, [], .return_) := by decide +kernel
theorem eX6_addBeside_0 : mn_dec cX6_addBeside 0 = some (1, [], .aload 0) := by decide +kernel
theorem eX6_addBeside_1 : mn_dec cX6_addBeside 1 = some (2, [], .iload 1) := by decide +kernel
theorem eX6_addBeside_2 : mn_dec cX6_addBeside 2 = some (5, [], .invokevirtual 36) := by decide +kernel
theorem eX6_addBeside_5 : mn_dec cX6_addBeside 5 = some (8, [18], .ifCond .eq 13) := by decide +kernel
theorem eX6_addBeside_8 : mn_dec cX6_addBeside 8 = some (9, [], .aload 0) := by decide +kernel
theorem eX6_addBeside_9 : mn_dec cX6_addBeside 9 = some (12, [], .getfield 16) := by decide +kernel
theorem eX6_addBeside_12 : mn_dec cX6_addBeside 12 = some (13, [], .iload 1) := by decide +kernel
theorem eX6_addBeside_13 : mn_dec cX6_addBeside 13 = some (14, [], .dup2) := by decide +kernel
theorem eX6_addBeside_14 : mn_dec cX6_addBeside 14 = some (15, [], .laload) := by decide +kernel
theorem eX6_addBeside_15 : mn_dec cX6_addBeside 15 = some (16, [], .lload 2) := by decide +kernel
theorem eX6_addBeside_16 : mn_dec cX6_addBeside 16 = some (17, [], .ladd) := by decide +kernel
theorem eX6_addBeside_17 : mn_dec cX6_addBeside 17 = some (18, [], .lastore) := by decide +kernel
theorem eX6_addBeside_18 : mn_dec cX6_addBeside 18 = some (19, [], .return_) := by decide +kernel
theorem eX6_determinant_0 : mn_dec cX6_determinant 0 = some (1, [], .iconst 1) := by decide +kernel
theorem eX6_determinant_1 : mn_dec cX6_determinant 1 = some (2, [], .aload 0) := by decide +kernel
theorem eX6_determinant_2 : mn_dec cX6_determinant 2 = some (5, [], .getfield 23) := by decide +kernel
theorem eX6_determinant_5 : mn_dec cX6_determinant 5 = some (6, [], .ishl) := by decide +kernel
theorem eX6_determinant_6 : mn_dec cX6_determinant 6 = some (7, [], .iconst 1) := by decide +kernel
theorem eX6_determinant_7 : mn_dec cX6_determinant 7 = some (8, [], .isub) := by decide +kernel
theorem eX6_determinant_8 : mn_dec cX6_determinant 8 = some (9, [], .istore 2) := by decide +kernel
theorem eX6_determinant_9 : mn_dec cX6_determinant 9 = some (10, [], .aload 0) := by decide +kernel
theorem eX6_determinant_10 : mn_dec cX6_determinant 10 = some (13, [], .getfield 20) := by decide +kernel
theorem eX6_determinant_13 : mn_dec cX6_determinant 13 = some (14, [], .iconst 0) := by decide +kernel
theorem eX6_determinant_14 : mn_dec cX6_determinant 14 = some (15, [], .lconst 1) := by decide +kernel
theorem eX6_determinant_15 : mn_dec cX6_determinant 15 = some (16, [], .lastore) := by decide +kernel
theorem eX6_determinant_16 : mn_dec cX6_determinant 16 = some (17, [], .iconst 1) := by decide +kernel
theorem eX6_determinant_17 : mn_dec cX6_determinant 17 = some (18, [], .istore 3) := by decide +kernel
theorem eX6_determinant_18 : mn_dec cX6_determinant 18 = some (19, [], .iload 3) := by decide +kernel
theorem eX6_determinant_19 : mn_dec cX6_determinant 19 = some (20, [], .iload 2) := by decide +kernel
theorem eX6_determinant_20 : mn_dec cX6_determinant 20 = some (23, [50], .if_icmp .gt 30) := by decide +kernel
theorem eX6_determinant_23 : mn_dec cX6_determinant 23 = some (24, [], .iload 3) := by decide +kernel
theorem eX6_determinant_24 : mn_dec cX6_determinant 24 = some (25, [], .aload 0) := by decide +kernel
theorem eX6_determinant_25 : mn_dec cX6_determinant 25 = some (28, [], .getfield 20) := by decide +kernel
theorem eX6_determinant_28 : mn_dec cX6_determinant 28 = some (29, [], .arraylength) := by decide +kernel
theorem eX6_determinant_29 : mn_dec cX6_determinant 29 = some (32, [50], .if_icmp .ge 21) := by decide +kernel
theorem eX6_determinant_32 : mn_dec cX6_determinant 32 = some (33, [], .aload 0) := by decide +kernel
theorem eX6_determinant_33 : mn_dec cX6_determinant 33 = some (36, [], .getfield 20) := by decide +kernel
theorem eX6_determinant_36 : mn_dec cX6_determinant 36 = some (37, [], .iload 3) := by decide +kernel
theorem eX6_determinant_37 : mn_dec cX6_determinant 37 = some (38, [], .aload 0) := by decide +kernel
theorem eX6_determinant_38 : mn_dec cX6_determinant 38 = some (39, [], .iload 3) := by decide +kernel
theorem eX6_determinant_39 : mn_dec cX6_determinant 39 = some (40, [], .iload 1) := by decide +kernel
theorem eX6_determinant_40 : mn_dec cX6_determinant 40 = some (43, [], .invokevirtual 40) := by decide +kernel
theorem eX6_determinant_43 : mn_dec cX6_determinant 43 = some (44, [], .lastore) := by decide +kernel
theorem eX6_determinant_44 : mn_dec cX6_determinant 44 = some (47, [], .iinc 3 1) := by decide +kernel
theorem eX6_determinant_47 : mn_dec cX6_determinant 47 = some (50, [18], .goto (-29)) := by decide +kernel
theorem eX6_determinant_50 : mn_dec cX6_determinant 50 = some (51, [], .iload 2) := by decide +kernel
theorem eX6_determinant_51 : mn_dec cX6_determinant 51 = some (54, [72], .ifCond .lt 21) := by decide +kernel
theorem eX6_determinant_54 : mn_dec cX6_determinant 54 = some (55, [], .iload 2) := by decide +kernel
theorem eX6_determinant_55 : mn_dec cX6_determinant 55 = some (56, [], .aload 0) := by decide +kernel
theorem eX6_determinant_56 : mn_dec cX6_determinant 56 = some (59, [], .getfield 20) := by decide +kernel
theorem eX6_determinant_59 : mn_dec cX6_determinant 59 = some (60, [], .arraylength) := by decide +kernel
theorem eX6_determinant_60 : mn_dec cX6_determinant 60 = some (63, [72], .if_icmp .ge 12) := by decide +kernel
theorem eX6_determinant_63 : mn_dec cX6_determinant 63 = some (64, [], .aload 0) := by decide +kernel
theorem eX6_determinant_64 : mn_dec cX6_determinant 64 = some (67, [], .getfield 20) := by decide +kernel
theorem eX6_determinant_67 : mn_dec cX6_determinant 67 = some (68, [], .iload 2) := by decide +kernel
theorem eX6_determinant_68 : mn_dec cX6_determinant 68 = some (69, [], .laload) := by decide +kernel
theorem eX6_determinant_69 : mn_dec cX6_determinant 69 = some (72, [73], .goto 4) := by decide +kernel
theorem eX6_determinant_72 : mn_dec cX6_determinant 72 = some (73, [], .lconst 0) := by decide +kernel
theorem eX6_determinant_73 : mn_dec cX6_determinant 73 = some (74, [], .lreturn) := by decide +kernel
theorem eX6_determinantWithout_0 : mn_dec cX6_determinantWithout 0 = some (1, [], .iconst 0) := by decide +kernel
theorem eX6_determinantWithout_1 : mn_dec cX6_determinantWithout 1 = some (2, [], .istore 2) := by decide +kernel
theorem eX6_determinantWithout_2 : mn_dec cX6_determinantWithout 2 = some (3, [], .iload 2) := by decide +kernel
theorem eX6_determinantWithout_3 : mn_dec cX6_determinantWithout 3 = some (4, [], .aload 0) := by decide +kernel
theorem eX6_determinantWithout_4 : mn_dec cX6_determinantWithout 4 = some (7, [], .getfield 23) := by decide +kernel
theorem eX6_determinantWithout_7 : mn_dec cX6_determinantWithout 7 = some (10, [41], .if_icmp .ge 34) := by decide +kernel
theorem eX6_determinantWithout_10 : mn_dec cX6_determinantWithout 10 = some (11, [], .iload 2) := by decide +kernel
theorem eX6_determinantWithout_11 : mn_dec cX6_determinantWithout 11 = some (12, [], .aload 0) := by decide +kernel
theorem eX6_determinantWithout_12 : mn_dec cX6_determinantWithout 12 = some (15, [], .getfield 16) := by decide +kernel
theorem eX6_determinantWithout_15 : mn_dec cX6_determinantWithout 15 = some (16, [], .arraylength) := by decide +kernel
theorem eX6_determinantWithout_16 : mn_dec cX6_determinantWithout 16 = some (19, [41], .if_icmp .ge 25) := by decide +kernel
theorem eX6_determinantWithout_19 : mn_dec cX6_determinantWithout 19 = some (20, [], .aload 0) := by decide +kernel
theorem eX6_determinantWithout_20 : mn_dec cX6_determinantWithout 20 = some (23, [], .getfield 16) := by decide +kernel
theorem eX6_determinantWithout_23 : mn_dec cX6_determinantWithout 23 = some (24, [], .iload 2) := by decide +kernel
theorem eX6_determinantWithout_24 : mn_dec cX6_determinantWithout 24 = some (25, [], .iload 2) := by decide +kernel
theorem eX6_determinantWithout_25 : mn_dec cX6_determinantWithout 25 = some (26, [], .iload 1) := by decide +kernel
theorem eX6_determinantWithout_26 : mn_dec cX6_determinantWithout 26 = some (29, [33], .if_icmp .ne 7) := by decide +kernel
theorem eX6_determinantWithout_29 : mn_dec cX6_determinantWithout 29 = some (30, [], .lconst 1) := by decide +kernel
theorem eX6_determinantWithout_30 : mn_dec cX6_determinantWithout 30 = some (33, [34], .goto 4) := by decide +kernel
theorem eX6_determinantWithout_33 : mn_dec cX6_determinantWithout 33 = some (34, [], .lconst 0) := by decide +kernel
theorem eX6_determinantWithout_34 : mn_dec cX6_determinantWithout 34 = some (35, [], .lastore) := by decide +kernel
theorem eX6_determinantWithout_35 : mn_dec cX6_determinantWithout 35 = some (38, [], .iinc 2 1) := by decide +kernel
theorem eX6_determinantWithout_38 : mn_dec cX6_determinantWithout 38 = some (41, [2], .goto (-36)) := by decide +kernel
theorem eX6_determinantWithout_41 : mn_dec cX6_determinantWithout 41 = some (42, [], .aload 0) := by decide +kernel
theorem eX6_determinantWithout_42 : mn_dec cX6_determinantWithout 42 = some (43, [], .iload 1) := by decide +kernel
theorem eX6_determinantWithout_43 : mn_dec cX6_determinantWithout 43 = some (46, [], .invokevirtual 44) := by decide +kernel
theorem eX6_determinantWithout_46 : mn_dec cX6_determinantWithout 46 = some (47, [], .lreturn) := by decide +kernel
theorem eX6_isPlace_0 : mn_dec cX6_isPlace 0 = some (1, [], .iload 1) := by decide +kernel
theorem eX6_isPlace_1 : mn_dec cX6_isPlace 1 = some (4, [22], .ifCond .lt 21) := by decide +kernel
theorem eX6_isPlace_4 : mn_dec cX6_isPlace 4 = some (5, [], .iload 1) := by decide +kernel
theorem eX6_isPlace_5 : mn_dec cX6_isPlace 5 = some (6, [], .aload 0) := by decide +kernel
theorem eX6_isPlace_6 : mn_dec cX6_isPlace 6 = some (9, [], .getfield 23) := by decide +kernel
theorem eX6_isPlace_9 : mn_dec cX6_isPlace 9 = some (12, [22], .if_icmp .ge 13) := by decide +kernel
theorem eX6_isPlace_12 : mn_dec cX6_isPlace 12 = some (13, [], .iload 1) := by decide +kernel
theorem eX6_isPlace_13 : mn_dec cX6_isPlace 13 = some (15, [], .iconst 6) := by decide +kernel
theorem eX6_isPlace_15 : mn_dec cX6_isPlace 15 = some (18, [22], .if_icmp .ge 7) := by decide +kernel
theorem eX6_isPlace_18 : mn_dec cX6_isPlace 18 = some (19, [], .iconst 1) := by decide +kernel
theorem eX6_isPlace_19 : mn_dec cX6_isPlace 19 = some (22, [23], .goto 4) := by decide +kernel
theorem eX6_isPlace_22 : mn_dec cX6_isPlace 22 = some (23, [], .iconst 0) := by decide +kernel
theorem eX6_isPlace_23 : mn_dec cX6_isPlace 23 = some (24, [], .ireturn) := by decide +kernel
theorem eX6_minorOf_0 : mn_dec cX6_minorOf 0 = some (1, [], .iload 1) := by decide +kernel
theorem eX6_minorOf_1 : mn_dec cX6_minorOf 1 = some (4, [], .invokestatic 48) := by decide +kernel
theorem eX6_minorOf_4 : mn_dec cX6_minorOf 4 = some (5, [], .iconst 1) := by decide +kernel
theorem eX6_minorOf_5 : mn_dec cX6_minorOf 5 = some (6, [], .isub) := by decide +kernel
theorem eX6_minorOf_6 : mn_dec cX6_minorOf 6 = some (7, [], .istore 3) := by decide +kernel
theorem eX6_minorOf_7 : mn_dec cX6_minorOf 7 = some (8, [], .lconst 0) := by decide +kernel
theorem eX6_minorOf_8 : mn_dec cX6_minorOf 8 = some (10, [], .lstore 4) := by decide +kernel
theorem eX6_minorOf_10 : mn_dec cX6_minorOf 10 = some (11, [], .lconst 1) := by decide +kernel
theorem eX6_minorOf_11 : mn_dec cX6_minorOf 11 = some (13, [], .lstore 6) := by decide +kernel
theorem eX6_minorOf_13 : mn_dec cX6_minorOf 13 = some (14, [], .aload 0) := by decide +kernel
theorem eX6_minorOf_14 : mn_dec cX6_minorOf 14 = some (17, [], .getfield 23) := by decide +kernel
theorem eX6_minorOf_17 : mn_dec cX6_minorOf 17 = some (18, [], .iconst 1) := by decide +kernel
theorem eX6_minorOf_18 : mn_dec cX6_minorOf 18 = some (19, [], .isub) := by decide +kernel
theorem eX6_minorOf_19 : mn_dec cX6_minorOf 19 = some (21, [], .istore 8) := by decide +kernel
theorem eX6_minorOf_21 : mn_dec cX6_minorOf 21 = some (23, [], .iload 8) := by decide +kernel
theorem eX6_minorOf_23 : mn_dec cX6_minorOf 23 = some (26, [92], .ifCond .lt 69) := by decide +kernel
theorem eX6_minorOf_26 : mn_dec cX6_minorOf 26 = some (27, [], .iload 1) := by decide +kernel
theorem eX6_minorOf_27 : mn_dec cX6_minorOf 27 = some (28, [], .iconst 1) := by decide +kernel
theorem eX6_minorOf_28 : mn_dec cX6_minorOf 28 = some (30, [], .iload 8) := by decide +kernel
theorem eX6_minorOf_30 : mn_dec cX6_minorOf 30 = some (31, [], .ishl) := by decide +kernel
theorem eX6_minorOf_31 : mn_dec cX6_minorOf 31 = some (32, [], .iconst (-1)) := by decide +kernel
theorem eX6_minorOf_32 : mn_dec cX6_minorOf 32 = some (33, [], .ixor) := by decide +kernel
theorem eX6_minorOf_33 : mn_dec cX6_minorOf 33 = some (34, [], .iand) := by decide +kernel
theorem eX6_minorOf_34 : mn_dec cX6_minorOf 34 = some (36, [], .istore 9) := by decide +kernel
theorem eX6_minorOf_36 : mn_dec cX6_minorOf 36 = some (38, [], .iload 9) := by decide +kernel
theorem eX6_minorOf_38 : mn_dec cX6_minorOf 38 = some (39, [], .iload 1) := by decide +kernel
theorem eX6_minorOf_39 : mn_dec cX6_minorOf 39 = some (42, [86], .if_icmp .eq 47) := by decide +kernel
theorem eX6_minorOf_42 : mn_dec cX6_minorOf 42 = some (44, [], .iload 9) := by decide +kernel
theorem eX6_minorOf_44 : mn_dec cX6_minorOf 44 = some (47, [86], .ifCond .lt 42) := by decide +kernel
theorem eX6_minorOf_47 : mn_dec cX6_minorOf 47 = some (49, [], .iload 9) := by decide +kernel
theorem eX6_minorOf_49 : mn_dec cX6_minorOf 49 = some (50, [], .aload 0) := by decide +kernel
theorem eX6_minorOf_50 : mn_dec cX6_minorOf 50 = some (53, [], .getfield 20) := by decide +kernel
theorem eX6_minorOf_53 : mn_dec cX6_minorOf 53 = some (54, [], .arraylength) := by decide +kernel
theorem eX6_minorOf_54 : mn_dec cX6_minorOf 54 = some (57, [86], .if_icmp .ge 32) := by decide +kernel
theorem eX6_minorOf_57 : mn_dec cX6_minorOf 57 = some (59, [], .lload 4) := by decide +kernel
theorem eX6_minorOf_59 : mn_dec cX6_minorOf 59 = some (61, [], .lload 6) := by decide +kernel
theorem eX6_minorOf_61 : mn_dec cX6_minorOf 61 = some (62, [], .aload 0) := by decide +kernel
theorem eX6_minorOf_62 : mn_dec cX6_minorOf 62 = some (63, [], .iload 3) := by decide +kernel
theorem eX6_minorOf_63 : mn_dec cX6_minorOf 63 = some (65, [], .iload 8) := by decide +kernel
theorem eX6_minorOf_65 : mn_dec cX6_minorOf 65 = some (66, [], .iload 2) := by decide +kernel
theorem eX6_minorOf_66 : mn_dec cX6_minorOf 66 = some (69, [], .invokevirtual 54) := by decide +kernel
theorem eX6_minorOf_69 : mn_dec cX6_minorOf 69 = some (70, [], .lmul) := by decide +kernel
theorem eX6_minorOf_70 : mn_dec cX6_minorOf 70 = some (71, [], .aload 0) := by decide +kernel
theorem eX6_minorOf_71 : mn_dec cX6_minorOf 71 = some (74, [], .getfield 20) := by decide +kernel
theorem eX6_minorOf_74 : mn_dec cX6_minorOf 74 = some (76, [], .iload 9) := by decide +kernel
theorem eX6_minorOf_76 : mn_dec cX6_minorOf 76 = some (77, [], .laload) := by decide +kernel
theorem eX6_minorOf_77 : mn_dec cX6_minorOf 77 = some (78, [], .lmul) := by decide +kernel
theorem eX6_minorOf_78 : mn_dec cX6_minorOf 78 = some (79, [], .ladd) := by decide +kernel
theorem eX6_minorOf_79 : mn_dec cX6_minorOf 79 = some (81, [], .lstore 4) := by decide +kernel
theorem eX6_minorOf_81 : mn_dec cX6_minorOf 81 = some (83, [], .lload 6) := by decide +kernel
theorem eX6_minorOf_83 : mn_dec cX6_minorOf 83 = some (84, [], .lneg) := by decide +kernel
theorem eX6_minorOf_84 : mn_dec cX6_minorOf 84 = some (86, [], .lstore 6) := by decide +kernel
theorem eX6_minorOf_86 : mn_dec cX6_minorOf 86 = some (89, [], .iinc 8 (-1)) := by decide +kernel
theorem eX6_minorOf_89 : mn_dec cX6_minorOf 89 = some (92, [21], .goto (-68)) := by decide +kernel
theorem eX6_minorOf_92 : mn_dec cX6_minorOf 92 = some (94, [], .lload 4) := by decide +kernel
theorem eX6_minorOf_94 : mn_dec cX6_minorOf 94 = some (95, [], .lreturn) := by decide +kernel
theorem eX6_cellOf_0 : mn_dec cX6_cellOf 0 = some (1, [], .aload 0) := by decide +kernel
theorem eX6_cellOf_1 : mn_dec cX6_cellOf 1 = some (2, [], .iload 1) := by decide +kernel
theorem eX6_cellOf_2 : mn_dec cX6_cellOf 2 = some (5, [], .invokevirtual 36) := by decide +kernel
theorem eX6_cellOf_5 : mn_dec cX6_cellOf 5 = some (8, [16], .ifCond .eq 11) := by decide +kernel
theorem eX6_cellOf_8 : mn_dec cX6_cellOf 8 = some (9, [], .aload 0) := by decide +kernel
theorem eX6_cellOf_9 : mn_dec cX6_cellOf 9 = some (10, [], .iload 2) := by decide +kernel
theorem eX6_cellOf_10 : mn_dec cX6_cellOf 10 = some (13, [], .invokevirtual 36) := by decide +kernel
theorem eX6_cellOf_13 : mn_dec cX6_cellOf 13 = some (16, [18], .ifCond .ne 5) := by decide +kernel
theorem eX6_cellOf_16 : mn_dec cX6_cellOf 16 = some (17, [], .lconst 0) := by decide +kernel
theorem eX6_cellOf_17 : mn_dec cX6_cellOf 17 = some (18, [], .lreturn) := by decide +kernel
theorem eX6_cellOf_18 : mn_dec cX6_cellOf 18 = some (19, [], .iload 2) := by decide +kernel
theorem eX6_cellOf_19 : mn_dec cX6_cellOf 19 = some (20, [], .iload 3) := by decide +kernel
theorem eX6_cellOf_20 : mn_dec cX6_cellOf 20 = some (23, [32], .if_icmp .ne 12) := by decide +kernel
theorem eX6_cellOf_23 : mn_dec cX6_cellOf 23 = some (24, [], .aload 0) := by decide +kernel
theorem eX6_cellOf_24 : mn_dec cX6_cellOf 24 = some (27, [], .getfield 16) := by decide +kernel
theorem eX6_cellOf_27 : mn_dec cX6_cellOf 27 = some (28, [], .iload 1) := by decide +kernel
theorem eX6_cellOf_28 : mn_dec cX6_cellOf 28 = some (29, [], .laload) := by decide +kernel
theorem eX6_cellOf_29 : mn_dec cX6_cellOf 29 = some (32, [40], .goto 11) := by decide +kernel
theorem eX6_cellOf_32 : mn_dec cX6_cellOf 32 = some (33, [], .aload 0) := by decide +kernel
theorem eX6_cellOf_33 : mn_dec cX6_cellOf 33 = some (36, [], .getfield 11) := by decide +kernel
theorem eX6_cellOf_36 : mn_dec cX6_cellOf 36 = some (37, [], .iload 1) := by decide +kernel
theorem eX6_cellOf_37 : mn_dec cX6_cellOf 37 = some (38, [], .aaload) := by decide +kernel
theorem eX6_cellOf_38 : mn_dec cX6_cellOf 38 = some (39, [], .iload 2) := by decide +kernel
theorem eX6_cellOf_39 : mn_dec cX6_cellOf 39 = some (40, [], .laload) := by decide +kernel
theorem eX6_cellOf_40 : mn_dec cX6_cellOf 40 = some (41, [], .lreturn) := by decide +kernel
theorem eX7_countKinds_0 : mn_dec cX7_countKinds 0 = some (1, [], .aload 0) := by decide +kernel
theorem eX7_countKinds_1 : mn_dec cX7_countKinds 1 = some (4, [], .getfield 22) := by decide +kernel
theorem eX7_countKinds_4 : mn_dec cX7_countKinds 4 = some (5, [], .ireturn) := by decide +kernel
theorem eX7_lookFor_0 : mn_dec cX7_lookFor 0 = some (1, [], .aload 0) := by decide +kernel
theorem eX7_lookFor_1 : mn_dec cX7_lookFor 1 = some (2, [], .iload 2) := by decide +kernel
theorem eX7_lookFor_2 : mn_dec cX7_lookFor 2 = some (3, [], .iload 3) := by decide +kernel
theorem eX7_lookFor_3 : mn_dec cX7_lookFor 3 = some (6, [], .invokevirtual 32) := by decide +kernel
theorem eX7_lookFor_6 : mn_dec cX7_lookFor 6 = some (7, [], .aload 0) := by decide +kernel
theorem eX7_lookFor_7 : mn_dec cX7_lookFor 7 = some (8, [], .aload 1) := by decide +kernel
theorem eX7_lookFor_8 : mn_dec cX7_lookFor 8 = some (11, [], .invokevirtual 36) := by decide +kernel
theorem eX7_lookFor_11 : mn_dec cX7_lookFor 11 = some (13, [], .lstore 4) := by decide +kernel
theorem eX7_lookFor_13 : mn_dec cX7_lookFor 13 = some (14, [], .aload 0) := by decide +kernel
theorem eX7_lookFor_14 : mn_dec cX7_lookFor 14 = some (16, [], .lload 4) := by decide +kernel
theorem eX7_lookFor_16 : mn_dec cX7_lookFor 16 = some (17, [], .iconst 0) := by decide +kernel
theorem eX7_lookFor_17 : mn_dec cX7_lookFor 17 = some (20, [], .invokevirtual 40) := by decide +kernel
theorem eX7_lookFor_20 : mn_dec cX7_lookFor 20 = some (21, [], .aload 0) := by decide +kernel
theorem eX7_lookFor_21 : mn_dec cX7_lookFor 21 = some (23, [], .lload 4) := by decide +kernel
theorem eX7_lookFor_23 : mn_dec cX7_lookFor 23 = some (26, [], .invokevirtual 44) := by decide +kernel
theorem eX7_lookFor_26 : mn_dec cX7_lookFor 26 = some (27, [], .aload 0) := by decide +kernel
theorem eX7_lookFor_27 : mn_dec cX7_lookFor 27 = some (30, [], .getfield 29) := by decide +kernel
theorem eX7_lookFor_30 : mn_dec cX7_lookFor 30 = some (33, [35], .if_icmp .gt 5) := by decide +kernel
theorem eX7_lookFor_33 : mn_dec cX7_lookFor 33 = some (34, [], .iconst 0) := by decide +kernel
theorem eX7_lookFor_34 : mn_dec cX7_lookFor 34 = some (35, [], .ireturn) := by decide +kernel
theorem eX7_lookFor_35 : mn_dec cX7_lookFor 35 = some (36, [], .iconst 0) := by decide +kernel
theorem eX7_lookFor_36 : mn_dec cX7_lookFor 36 = some (38, [], .istore 6) := by decide +kernel
theorem eX7_lookFor_38 : mn_dec cX7_lookFor 38 = some (40, [], .iload 6) := by decide +kernel
theorem eX7_lookFor_40 : mn_dec cX7_lookFor 40 = some (41, [], .aload 0) := by decide +kernel
theorem eX7_lookFor_41 : mn_dec cX7_lookFor 41 = some (44, [], .getfield 22) := by decide +kernel
theorem eX7_lookFor_44 : mn_dec cX7_lookFor 44 = some (47, [93], .if_icmp .ge 49) := by decide +kernel
theorem eX7_lookFor_47 : mn_dec cX7_lookFor 47 = some (49, [], .iload 6) := by decide +kernel
theorem eX7_lookFor_49 : mn_dec cX7_lookFor 49 = some (52, [], .iconst 500) := by decide +kernel
theorem eX7_lookFor_52 : mn_dec cX7_lookFor 52 = some (55, [93], .if_icmp .ge 41) := by decide +kernel
theorem eX7_lookFor_55 : mn_dec cX7_lookFor 55 = some (56, [], .aload 0) := by decide +kernel
theorem eX7_lookFor_56 : mn_dec cX7_lookFor 56 = some (57, [], .aload 0) := by decide +kernel
theorem eX7_lookFor_57 : mn_dec cX7_lookFor 57 = some (60, [], .getfield 11) := by decide +kernel
theorem eX7_lookFor_60 : mn_dec cX7_lookFor 60 = some (62, [], .iload 6) := by decide +kernel
theorem eX7_lookFor_62 : mn_dec cX7_lookFor 62 = some (63, [], .laload) := by decide +kernel
theorem eX7_lookFor_63 : mn_dec cX7_lookFor 63 = some (64, [], .aload 0) := by decide +kernel
theorem eX7_lookFor_64 : mn_dec cX7_lookFor 64 = some (67, [], .getfield 15) := by decide +kernel
theorem eX7_lookFor_67 : mn_dec cX7_lookFor 67 = some (69, [], .iload 6) := by decide +kernel
theorem eX7_lookFor_69 : mn_dec cX7_lookFor 69 = some (70, [], .iaload) := by decide +kernel
theorem eX7_lookFor_70 : mn_dec cX7_lookFor 70 = some (71, [], .iconst 1) := by decide +kernel
theorem eX7_lookFor_71 : mn_dec cX7_lookFor 71 = some (72, [], .iadd) := by decide +kernel
theorem eX7_lookFor_72 : mn_dec cX7_lookFor 72 = some (75, [], .invokevirtual 48) := by decide +kernel
theorem eX7_lookFor_75 : mn_dec cX7_lookFor 75 = some (77, [], .istore 7) := by decide +kernel
theorem eX7_lookFor_77 : mn_dec cX7_lookFor 77 = some (79, [], .iload 7) := by decide +kernel
theorem eX7_lookFor_79 : mn_dec cX7_lookFor 79 = some (81, [], .iconst (-6)) := by decide +kernel
theorem eX7_lookFor_81 : mn_dec cX7_lookFor 81 = some (84, [87], .if_icmp .eq 6) := by decide +kernel
theorem eX7_lookFor_84 : mn_dec cX7_lookFor 84 = some (86, [], .iload 7) := by decide +kernel
theorem eX7_lookFor_86 : mn_dec cX7_lookFor 86 = some (87, [], .ireturn) := by decide +kernel
theorem eX7_lookFor_87 : mn_dec cX7_lookFor 87 = some (90, [], .iinc 6 1) := by decide +kernel
theorem eX7_lookFor_90 : mn_dec cX7_lookFor 90 = some (93, [38], .goto (-52)) := by decide +kernel
theorem eX7_lookFor_93 : mn_dec cX7_lookFor 93 = some (95, [], .iconst (-6)) := by decide +kernel
theorem eX7_lookFor_95 : mn_dec cX7_lookFor 95 = some (96, [], .ireturn) := by decide +kernel
theorem eX7_goOnFrom_0 : mn_dec cX7_goOnFrom 0 = some (1, [], .iconst 0) := by decide +kernel
theorem eX7_goOnFrom_1 : mn_dec cX7_goOnFrom 1 = some (3, [], .istore 4) := by decide +kernel
theorem eX7_goOnFrom_3 : mn_dec cX7_goOnFrom 3 = some (5, [], .iload 4) := by decide +kernel
theorem eX7_goOnFrom_5 : mn_dec cX7_goOnFrom 5 = some (6, [], .aload 0) := by decide +kernel
theorem eX7_goOnFrom_6 : mn_dec cX7_goOnFrom 6 = some (9, [], .getfield 26) := by decide +kernel
theorem eX7_goOnFrom_9 : mn_dec cX7_goOnFrom 9 = some (12, [98], .if_icmp .ge 89) := by decide +kernel
theorem eX7_goOnFrom_12 : mn_dec cX7_goOnFrom 12 = some (14, [], .iload 4) := by decide +kernel
theorem eX7_goOnFrom_14 : mn_dec cX7_goOnFrom 14 = some (15, [], .iconst 1) := by decide +kernel
theorem eX7_goOnFrom_15 : mn_dec cX7_goOnFrom 15 = some (16, [], .iadd) := by decide +kernel
theorem eX7_goOnFrom_16 : mn_dec cX7_goOnFrom 16 = some (18, [], .istore 5) := by decide +kernel
theorem eX7_goOnFrom_18 : mn_dec cX7_goOnFrom 18 = some (20, [], .iload 5) := by decide +kernel
theorem eX7_goOnFrom_20 : mn_dec cX7_goOnFrom 20 = some (21, [], .aload 0) := by decide +kernel
theorem eX7_goOnFrom_21 : mn_dec cX7_goOnFrom 21 = some (24, [], .getfield 26) := by decide +kernel
theorem eX7_goOnFrom_24 : mn_dec cX7_goOnFrom 24 = some (27, [92], .if_icmp .ge 68) := by decide +kernel
theorem eX7_goOnFrom_27 : mn_dec cX7_goOnFrom 27 = some (28, [], .lload 1) := by decide +kernel
theorem eX7_goOnFrom_28 : mn_dec cX7_goOnFrom 28 = some (30, [], .iload 4) := by decide +kernel
theorem eX7_goOnFrom_30 : mn_dec cX7_goOnFrom 30 = some (32, [], .iload 5) := by decide +kernel
theorem eX7_goOnFrom_32 : mn_dec cX7_goOnFrom 32 = some (35, [], .invokestatic 52) := by decide +kernel
theorem eX7_goOnFrom_35 : mn_dec cX7_goOnFrom 35 = some (37, [], .lstore 6) := by decide +kernel
theorem eX7_goOnFrom_37 : mn_dec cX7_goOnFrom 37 = some (38, [], .aload 0) := by decide +kernel
theorem eX7_goOnFrom_38 : mn_dec cX7_goOnFrom 38 = some (40, [], .lload 6) := by decide +kernel
theorem eX7_goOnFrom_40 : mn_dec cX7_goOnFrom 40 = some (43, [], .invokevirtual 56) := by decide +kernel
theorem eX7_goOnFrom_43 : mn_dec cX7_goOnFrom 43 = some (46, [49], .ifCond .eq 6) := by decide +kernel
theorem eX7_goOnFrom_46 : mn_dec cX7_goOnFrom 46 = some (49, [86], .goto 40) := by decide +kernel
theorem eX7_goOnFrom_49 : mn_dec cX7_goOnFrom 49 = some (50, [], .aload 0) := by decide +kernel
theorem eX7_goOnFrom_50 : mn_dec cX7_goOnFrom 50 = some (53, [], .getfield 22) := by decide +kernel
theorem eX7_goOnFrom_53 : mn_dec cX7_goOnFrom 53 = some (54, [], .aload 0) := by decide +kernel
theorem eX7_goOnFrom_54 : mn_dec cX7_goOnFrom 54 = some (57, [], .getfield 11) := by decide +kernel
theorem eX7_goOnFrom_57 : mn_dec cX7_goOnFrom 57 = some (58, [], .arraylength) := by decide +kernel
theorem eX7_goOnFrom_58 : mn_dec cX7_goOnFrom 58 = some (61, [64], .if_icmp .lt 6) := by decide +kernel
theorem eX7_goOnFrom_61 : mn_dec cX7_goOnFrom 61 = some (63, [], .iconst (-7)) := by decide +kernel
theorem eX7_goOnFrom_63 : mn_dec cX7_goOnFrom 63 = some (64, [], .ireturn) := by decide +kernel
theorem eX7_goOnFrom_64 : mn_dec cX7_goOnFrom 64 = some (65, [], .aload 0) := by decide +kernel
theorem eX7_goOnFrom_65 : mn_dec cX7_goOnFrom 65 = some (67, [], .lload 6) := by decide +kernel
theorem eX7_goOnFrom_67 : mn_dec cX7_goOnFrom 67 = some (68, [], .iload 3) := by decide +kernel
theorem eX7_goOnFrom_68 : mn_dec cX7_goOnFrom 68 = some (71, [], .invokevirtual 40) := by decide +kernel
theorem eX7_goOnFrom_71 : mn_dec cX7_goOnFrom 71 = some (72, [], .aload 0) := by decide +kernel
theorem eX7_goOnFrom_72 : mn_dec cX7_goOnFrom 72 = some (74, [], .lload 6) := by decide +kernel
theorem eX7_goOnFrom_74 : mn_dec cX7_goOnFrom 74 = some (77, [], .invokevirtual 44) := by decide +kernel
theorem eX7_goOnFrom_77 : mn_dec cX7_goOnFrom 77 = some (78, [], .aload 0) := by decide +kernel
theorem eX7_goOnFrom_78 : mn_dec cX7_goOnFrom 78 = some (81, [], .getfield 29) := by decide +kernel
theorem eX7_goOnFrom_81 : mn_dec cX7_goOnFrom 81 = some (84, [86], .if_icmp .gt 5) := by decide +kernel
theorem eX7_goOnFrom_84 : mn_dec cX7_goOnFrom 84 = some (85, [], .iload 3) := by decide +kernel
theorem eX7_goOnFrom_85 : mn_dec cX7_goOnFrom 85 = some (86, [], .ireturn) := by decide +kernel
theorem eX7_goOnFrom_86 : mn_dec cX7_goOnFrom 86 = some (89, [], .iinc 5 1) := by decide +kernel
theorem eX7_goOnFrom_89 : mn_dec cX7_goOnFrom 89 = some (92, [18], .goto (-71)) := by decide +kernel
theorem eX7_goOnFrom_92 : mn_dec cX7_goOnFrom 92 = some (95, [], .iinc 4 1) := by decide +kernel
theorem eX7_goOnFrom_95 : mn_dec cX7_goOnFrom 95 = some (98, [3], .goto (-92)) := by decide +kernel
theorem eX7_goOnFrom_98 : mn_dec cX7_goOnFrom 98 = some (100, [], .iconst (-6)) := by decide +kernel
theorem eX7_goOnFrom_100 : mn_dec cX7_goOnFrom 100 = some (101, [], .ireturn) := by decide +kernel
theorem eX7_begin_0 : mn_dec cX7_begin 0 = some (1, [], .aload 0) := by decide +kernel
theorem eX7_begin_1 : mn_dec cX7_begin 1 = some (2, [], .iload 1) := by decide +kernel
theorem eX7_begin_2 : mn_dec cX7_begin 2 = some (5, [], .putfield 26) := by decide +kernel
theorem eX7_begin_5 : mn_dec cX7_begin 5 = some (6, [], .aload 0) := by decide +kernel
theorem eX7_begin_6 : mn_dec cX7_begin 6 = some (7, [], .iload 2) := by decide +kernel
theorem eX7_begin_7 : mn_dec cX7_begin 7 = some (10, [], .putfield 29) := by decide +kernel
theorem eX7_begin_10 : mn_dec cX7_begin 10 = some (11, [], .aload 0) := by decide +kernel
theorem eX7_begin_11 : mn_dec cX7_begin 11 = some (12, [], .iconst 0) := by decide +kernel
theorem eX7_begin_12 : mn_dec cX7_begin 12 = some (15, [], .putfield 22) := by decide +kernel
theorem eX7_begin_15 : mn_dec cX7_begin 15 = some (16, [], .iconst 0) := by decide +kernel
theorem eX7_begin_16 : mn_dec cX7_begin 16 = some (17, [], .istore 3) := by decide +kernel
theorem eX7_begin_17 : mn_dec cX7_begin 17 = some (18, [], .iload 3) := by decide +kernel
theorem eX7_begin_18 : mn_dec cX7_begin 18 = some (19, [], .aload 0) := by decide +kernel
theorem eX7_begin_19 : mn_dec cX7_begin 19 = some (22, [], .getfield 19) := by decide +kernel
theorem eX7_begin_22 : mn_dec cX7_begin 22 = some (23, [], .arraylength) := by decide +kernel
theorem eX7_begin_23 : mn_dec cX7_begin 23 = some (26, [39], .if_icmp .ge 16) := by decide +kernel
theorem eX7_begin_26 : mn_dec cX7_begin 26 = some (27, [], .aload 0) := by decide +kernel
theorem eX7_begin_27 : mn_dec cX7_begin 27 = some (30, [], .getfield 19) := by decide +kernel
theorem eX7_begin_30 : mn_dec cX7_begin 30 = some (31, [], .iload 3) := by decide +kernel
theorem eX7_begin_31 : mn_dec cX7_begin 31 = some (32, [], .iconst 0) := by decide +kernel
theorem eX7_begin_32 : mn_dec cX7_begin 32 = some (33, [], .iastore) := by decide +kernel
theorem eX7_begin_33 : mn_dec cX7_begin 33 = some (36, [], .iinc 3 1) := by decide +kernel
theorem eX7_begin_36 : mn_dec cX7_begin 36 = some (39, [17], .goto (-19)) := by decide +kernel
theorem eX7_begin_39 : mn_dec cX7_begin 39 = some (40, [], .return_) := by decide +kernel
theorem eX7_pack_0 : mn_dec cX7_pack 0 = some (1, [], .lconst 0) := by decide +kernel
theorem eX7_pack_1 : mn_dec cX7_pack 1 = some (2, [], .lstore 2) := by decide +kernel
theorem eX7_pack_2 : mn_dec cX7_pack 2 = some (3, [], .iconst 0) := by decide +kernel
theorem eX7_pack_3 : mn_dec cX7_pack 3 = some (5, [], .istore 4) := by decide +kernel
theorem eX7_pack_5 : mn_dec cX7_pack 5 = some (7, [], .iload 4) := by decide +kernel
theorem eX7_pack_7 : mn_dec cX7_pack 7 = some (8, [], .aload 0) := by decide +kernel
theorem eX7_pack_8 : mn_dec cX7_pack 8 = some (11, [], .getfield 26) := by decide +kernel
theorem eX7_pack_11 : mn_dec cX7_pack 11 = some (14, [36], .if_icmp .ge 25) := by decide +kernel
theorem eX7_pack_14 : mn_dec cX7_pack 14 = some (15, [], .lload 2) := by decide +kernel
theorem eX7_pack_15 : mn_dec cX7_pack 15 = some (16, [], .aload 1) := by decide +kernel
theorem eX7_pack_16 : mn_dec cX7_pack 16 = some (18, [], .iload 4) := by decide +kernel
theorem eX7_pack_18 : mn_dec cX7_pack 18 = some (21, [], .invokevirtual 60) := by decide +kernel
theorem eX7_pack_21 : mn_dec cX7_pack 21 = some (22, [], .i2l) := by decide +kernel
theorem eX7_pack_22 : mn_dec cX7_pack 22 = some (24, [], .iconst 10) := by decide +kernel
theorem eX7_pack_24 : mn_dec cX7_pack 24 = some (26, [], .iload 4) := by decide +kernel
theorem eX7_pack_26 : mn_dec cX7_pack 26 = some (27, [], .imul) := by decide +kernel
theorem eX7_pack_27 : mn_dec cX7_pack 27 = some (28, [], .lshl) := by decide +kernel
theorem eX7_pack_28 : mn_dec cX7_pack 28 = some (29, [], .lor) := by decide +kernel
theorem eX7_pack_29 : mn_dec cX7_pack 29 = some (30, [], .lstore 2) := by decide +kernel
theorem eX7_pack_30 : mn_dec cX7_pack 30 = some (33, [], .iinc 4 1) := by decide +kernel
theorem eX7_pack_33 : mn_dec cX7_pack 33 = some (36, [5], .goto (-28)) := by decide +kernel
theorem eX7_pack_36 : mn_dec cX7_pack 36 = some (37, [], .lload 2) := by decide +kernel
theorem eX7_pack_37 : mn_dec cX7_pack 37 = some (38, [], .lreturn) := by decide +kernel
theorem eX7_unpack_0 : mn_dec cX7_unpack 0 = some (1, [], .lload 0) := by decide +kernel
theorem eX7_unpack_1 : mn_dec cX7_unpack 1 = some (3, [], .iconst 10) := by decide +kernel
theorem eX7_unpack_3 : mn_dec cX7_unpack 3 = some (4, [], .iload 2) := by decide +kernel
theorem eX7_unpack_4 : mn_dec cX7_unpack 4 = some (5, [], .imul) := by decide +kernel
theorem eX7_unpack_5 : mn_dec cX7_unpack 5 = some (6, [], .lshr) := by decide +kernel
theorem eX7_unpack_6 : mn_dec cX7_unpack 6 = some (9, [], .ldc2_w 66) := by decide +kernel
theorem eX7_unpack_9 : mn_dec cX7_unpack 9 = some (10, [], .land) := by decide +kernel
theorem eX7_unpack_10 : mn_dec cX7_unpack 10 = some (11, [], .l2i) := by decide +kernel
theorem eX7_unpack_11 : mn_dec cX7_unpack 11 = some (12, [], .ireturn) := by decide +kernel
theorem eX7_afterTalk_0 : mn_dec cX7_afterTalk 0 = some (1, [], .lload 0) := by decide +kernel
theorem eX7_afterTalk_1 : mn_dec cX7_afterTalk 1 = some (2, [], .iload 2) := by decide +kernel
theorem eX7_afterTalk_2 : mn_dec cX7_afterTalk 2 = some (5, [], .invokestatic 68) := by decide +kernel
theorem eX7_afterTalk_5 : mn_dec cX7_afterTalk 5 = some (7, [], .istore 4) := by decide +kernel
theorem eX7_afterTalk_7 : mn_dec cX7_afterTalk 7 = some (8, [], .lload 0) := by decide +kernel
theorem eX7_afterTalk_8 : mn_dec cX7_afterTalk 8 = some (9, [], .iload 3) := by decide +kernel
theorem eX7_afterTalk_9 : mn_dec cX7_afterTalk 9 = some (12, [], .invokestatic 68) := by decide +kernel
theorem eX7_afterTalk_12 : mn_dec cX7_afterTalk 12 = some (14, [], .istore 5) := by decide +kernel
theorem eX7_afterTalk_14 : mn_dec cX7_afterTalk 14 = some (16, [], .iload 4) := by decide +kernel
theorem eX7_afterTalk_16 : mn_dec cX7_afterTalk 16 = some (18, [], .iload 5) := by decide +kernel
theorem eX7_afterTalk_18 : mn_dec cX7_afterTalk 18 = some (19, [], .iadd) := by decide +kernel
theorem eX7_afterTalk_19 : mn_dec cX7_afterTalk 19 = some (20, [], .iconst 2) := by decide +kernel
theorem eX7_afterTalk_20 : mn_dec cX7_afterTalk 20 = some (21, [], .idiv) := by decide +kernel
theorem eX7_afterTalk_21 : mn_dec cX7_afterTalk 21 = some (23, [], .istore 6) := by decide +kernel
theorem eX7_afterTalk_23 : mn_dec cX7_afterTalk 23 = some (25, [], .iload 4) := by decide +kernel
theorem eX7_afterTalk_25 : mn_dec cX7_afterTalk 25 = some (27, [], .iload 5) := by decide +kernel
theorem eX7_afterTalk_27 : mn_dec cX7_afterTalk 27 = some (28, [], .iadd) := by decide +kernel
theorem eX7_afterTalk_28 : mn_dec cX7_afterTalk 28 = some (30, [], .iload 6) := by decide +kernel
theorem eX7_afterTalk_30 : mn_dec cX7_afterTalk 30 = some (31, [], .isub) := by decide +kernel
theorem eX7_afterTalk_31 : mn_dec cX7_afterTalk 31 = some (33, [], .istore 7) := by decide +kernel
theorem eX7_afterTalk_33 : mn_dec cX7_afterTalk 33 = some (34, [], .lload 0) := by decide +kernel
theorem eX7_afterTalk_34 : mn_dec cX7_afterTalk 34 = some (37, [], .ldc2_w 66) := by decide +kernel
theorem eX7_afterTalk_37 : mn_dec cX7_afterTalk 37 = some (39, [], .iconst 10) := by decide +kernel
theorem eX7_afterTalk_39 : mn_dec cX7_afterTalk 39 = some (40, [], .iload 2) := by decide +kernel
theorem eX7_afterTalk_40 : mn_dec cX7_afterTalk 40 = some (41, [], .imul) := by decide +kernel
theorem eX7_afterTalk_41 : mn_dec cX7_afterTalk 41 = some (42, [], .lshl) := by decide +kernel
theorem eX7_afterTalk_42 : mn_dec cX7_afterTalk 42 = some (45, [], .ldc2_w 71) := by decide +kernel
theorem eX7_afterTalk_45 : mn_dec cX7_afterTalk 45 = some (46, [], .lxor) := by decide +kernel
theorem eX7_afterTalk_46 : mn_dec cX7_afterTalk 46 = some (47, [], .land) := by decide +kernel
theorem eX7_afterTalk_47 : mn_dec cX7_afterTalk 47 = some (50, [], .ldc2_w 66) := by decide +kernel
theorem eX7_afterTalk_50 : mn_dec cX7_afterTalk 50 = some (52, [], .iconst 10) := by decide +kernel
theorem eX7_afterTalk_52 : mn_dec cX7_afterTalk 52 = some (53, [], .iload 3) := by decide +kernel
theorem eX7_afterTalk_53 : mn_dec cX7_afterTalk 53 = some (54, [], .imul) := by decide +kernel
theorem eX7_afterTalk_54 : mn_dec cX7_afterTalk 54 = some (55, [], .lshl) := by decide +kernel
theorem eX7_afterTalk_55 : mn_dec cX7_afterTalk 55 = some (58, [], .ldc2_w 71) := by decide +kernel
theorem eX7_afterTalk_58 : mn_dec cX7_afterTalk 58 = some (59, [], .lxor) := by decide +kernel
theorem eX7_afterTalk_59 : mn_dec cX7_afterTalk 59 = some (60, [], .land) := by decide +kernel
theorem eX7_afterTalk_60 : mn_dec cX7_afterTalk 60 = some (62, [], .lstore 8) := by decide +kernel
theorem eX7_afterTalk_62 : mn_dec cX7_afterTalk 62 = some (64, [], .iload 4) := by decide +kernel
theorem eX7_afterTalk_64 : mn_dec cX7_afterTalk 64 = some (66, [], .iload 5) := by decide +kernel
theorem eX7_afterTalk_66 : mn_dec cX7_afterTalk 66 = some (69, [73], .if_icmp .gt 7) := by decide +kernel
theorem eX7_afterTalk_69 : mn_dec cX7_afterTalk 69 = some (70, [], .iconst 1) := by decide +kernel
theorem eX7_afterTalk_70 : mn_dec cX7_afterTalk 70 = some (73, [74], .goto 4) := by decide +kernel
theorem eX7_afterTalk_73 : mn_dec cX7_afterTalk 73 = some (74, [], .iconst 0) := by decide +kernel
theorem eX7_afterTalk_74 : mn_dec cX7_afterTalk 74 = some (76, [], .istore 10) := by decide +kernel
theorem eX7_afterTalk_76 : mn_dec cX7_afterTalk 76 = some (78, [], .lload 8) := by decide +kernel
theorem eX7_afterTalk_78 : mn_dec cX7_afterTalk 78 = some (80, [], .iload 10) := by decide +kernel
theorem eX7_afterTalk_80 : mn_dec cX7_afterTalk 80 = some (83, [88], .ifCond .eq 8) := by decide +kernel
theorem eX7_afterTalk_83 : mn_dec cX7_afterTalk 83 = some (85, [], .iload 6) := by decide +kernel
theorem eX7_afterTalk_85 : mn_dec cX7_afterTalk 85 = some (88, [90], .goto 5) := by decide +kernel
theorem eX7_afterTalk_88 : mn_dec cX7_afterTalk 88 = some (90, [], .iload 7) := by decide +kernel
theorem eX7_afterTalk_90 : mn_dec cX7_afterTalk 90 = some (91, [], .i2l) := by decide +kernel
theorem eX7_afterTalk_91 : mn_dec cX7_afterTalk 91 = some (93, [], .iconst 10) := by decide +kernel
theorem eX7_afterTalk_93 : mn_dec cX7_afterTalk 93 = some (94, [], .iload 2) := by decide +kernel
theorem eX7_afterTalk_94 : mn_dec cX7_afterTalk 94 = some (95, [], .imul) := by decide +kernel
theorem eX7_afterTalk_95 : mn_dec cX7_afterTalk 95 = some (96, [], .lshl) := by decide +kernel
theorem eX7_afterTalk_96 : mn_dec cX7_afterTalk 96 = some (97, [], .lor) := by decide +kernel
theorem eX7_afterTalk_97 : mn_dec cX7_afterTalk 97 = some (99, [], .iload 10) := by decide +kernel
theorem eX7_afterTalk_99 : mn_dec cX7_afterTalk 99 = some (102, [107], .ifCond .eq 8) := by decide +kernel
theorem eX7_afterTalk_102 : mn_dec cX7_afterTalk 102 = some (104, [], .iload 7) := by decide +kernel
theorem eX7_afterTalk_104 : mn_dec cX7_afterTalk 104 = some (107, [109], .goto 5) := by decide +kernel
theorem eX7_afterTalk_107 : mn_dec cX7_afterTalk 107 = some (109, [], .iload 6) := by decide +kernel
theorem eX7_afterTalk_109 : mn_dec cX7_afterTalk 109 = some (110, [], .i2l) := by decide +kernel
theorem eX7_afterTalk_110 : mn_dec cX7_afterTalk 110 = some (112, [], .iconst 10) := by decide +kernel
theorem eX7_afterTalk_112 : mn_dec cX7_afterTalk 112 = some (113, [], .iload 3) := by decide +kernel
theorem eX7_afterTalk_113 : mn_dec cX7_afterTalk 113 = some (114, [], .imul) := by decide +kernel
theorem eX7_afterTalk_114 : mn_dec cX7_afterTalk 114 = some (115, [], .lshl) := by decide +kernel
theorem eX7_afterTalk_115 : mn_dec cX7_afterTalk 115 = some (116, [], .lor) := by decide +kernel
theorem eX7_afterTalk_116 : mn_dec cX7_afterTalk 116 = some (117, [], .lreturn) := by decide +kernel
theorem eX7_spreadOf_0 : mn_dec cX7_spreadOf 0 = some (1, [], .lload 1) := by decide +kernel
theorem eX7_spreadOf_1 : mn_dec cX7_spreadOf 1 = some (2, [], .iconst 0) := by decide +kernel
theorem eX7_spreadOf_2 : mn_dec cX7_spreadOf 2 = some (5, [], .invokestatic 68) := by decide +kernel
theorem eX7_spreadOf_5 : mn_dec cX7_spreadOf 5 = some (6, [], .istore 3) := by decide +kernel
theorem eX7_spreadOf_6 : mn_dec cX7_spreadOf 6 = some (7, [], .iload 3) := by decide +kernel
theorem eX7_spreadOf_7 : mn_dec cX7_spreadOf 7 = some (9, [], .istore 4) := by decide +kernel
theorem eX7_spreadOf_9 : mn_dec cX7_spreadOf 9 = some (10, [], .iconst 1) := by decide +kernel
theorem eX7_spreadOf_10 : mn_dec cX7_spreadOf 10 = some (12, [], .istore 5) := by decide +kernel
theorem eX7_spreadOf_12 : mn_dec cX7_spreadOf 12 = some (14, [], .iload 5) := by decide +kernel
theorem eX7_spreadOf_14 : mn_dec cX7_spreadOf 14 = some (15, [], .aload 0) := by decide +kernel
theorem eX7_spreadOf_15 : mn_dec cX7_spreadOf 15 = some (18, [], .getfield 26) := by decide +kernel
theorem eX7_spreadOf_18 : mn_dec cX7_spreadOf 18 = some (21, [51], .if_icmp .ge 33) := by decide +kernel
theorem eX7_spreadOf_21 : mn_dec cX7_spreadOf 21 = some (22, [], .iload 3) := by decide +kernel
theorem eX7_spreadOf_22 : mn_dec cX7_spreadOf 22 = some (23, [], .lload 1) := by decide +kernel
theorem eX7_spreadOf_23 : mn_dec cX7_spreadOf 23 = some (25, [], .iload 5) := by decide +kernel
theorem eX7_spreadOf_25 : mn_dec cX7_spreadOf 25 = some (28, [], .invokestatic 68) := by decide +kernel
theorem eX7_spreadOf_28 : mn_dec cX7_spreadOf 28 = some (31, [], .invokestatic 73) := by decide +kernel
theorem eX7_spreadOf_31 : mn_dec cX7_spreadOf 31 = some (32, [], .istore 3) := by decide +kernel
theorem eX7_spreadOf_32 : mn_dec cX7_spreadOf 32 = some (34, [], .iload 4) := by decide +kernel
theorem eX7_spreadOf_34 : mn_dec cX7_spreadOf 34 = some (35, [], .lload 1) := by decide +kernel
theorem eX7_spreadOf_35 : mn_dec cX7_spreadOf 35 = some (37, [], .iload 5) := by decide +kernel
theorem eX7_spreadOf_37 : mn_dec cX7_spreadOf 37 = some (40, [], .invokestatic 68) := by decide +kernel
theorem eX7_spreadOf_40 : mn_dec cX7_spreadOf 40 = some (43, [], .invokestatic 79) := by decide +kernel
theorem eX7_spreadOf_43 : mn_dec cX7_spreadOf 43 = some (45, [], .istore 4) := by decide +kernel
theorem eX7_spreadOf_45 : mn_dec cX7_spreadOf 45 = some (48, [], .iinc 5 1) := by decide +kernel
theorem eX7_spreadOf_48 : mn_dec cX7_spreadOf 48 = some (51, [12], .goto (-36)) := by decide +kernel
theorem eX7_spreadOf_51 : mn_dec cX7_spreadOf 51 = some (53, [], .iload 4) := by decide +kernel
theorem eX7_spreadOf_53 : mn_dec cX7_spreadOf 53 = some (54, [], .iload 3) := by decide +kernel
theorem eX7_spreadOf_54 : mn_dec cX7_spreadOf 54 = some (55, [], .isub) := by decide +kernel
theorem eX7_spreadOf_55 : mn_dec cX7_spreadOf 55 = some (56, [], .ireturn) := by decide +kernel
theorem eX7_isKnown_0 : mn_dec cX7_isKnown 0 = some (1, [], .aload 0) := by decide +kernel
theorem eX7_isKnown_1 : mn_dec cX7_isKnown 1 = some (2, [], .aload 0) := by decide +kernel
theorem eX7_isKnown_2 : mn_dec cX7_isKnown 2 = some (3, [], .aload 0) := by decide +kernel
theorem eX7_isKnown_3 : mn_dec cX7_isKnown 3 = some (4, [], .lload 1) := by decide +kernel
theorem eX7_isKnown_4 : mn_dec cX7_isKnown 4 = some (7, [], .invokevirtual 82) := by decide +kernel
theorem eX7_isKnown_7 : mn_dec cX7_isKnown 7 = some (10, [], .invokevirtual 85) := by decide +kernel
theorem eX7_isKnown_10 : mn_dec cX7_isKnown 10 = some (11, [], .lload 1) := by decide +kernel
theorem eX7_isKnown_11 : mn_dec cX7_isKnown 11 = some (14, [], .invokevirtual 88) := by decide +kernel
theorem eX7_isKnown_14 : mn_dec cX7_isKnown 14 = some (15, [], .ireturn) := by decide +kernel
theorem eX7_isAt_0 : mn_dec cX7_isAt 0 = some (1, [], .iload 1) := by decide +kernel
theorem eX7_isAt_1 : mn_dec cX7_isAt 1 = some (4, [28], .ifCond .lt 27) := by decide +kernel
theorem eX7_isAt_4 : mn_dec cX7_isAt 4 = some (5, [], .iload 1) := by decide +kernel
theorem eX7_isAt_5 : mn_dec cX7_isAt 5 = some (6, [], .aload 0) := by decide +kernel
theorem eX7_isAt_6 : mn_dec cX7_isAt 6 = some (9, [], .getfield 11) := by decide +kernel
theorem eX7_isAt_9 : mn_dec cX7_isAt 9 = some (10, [], .arraylength) := by decide +kernel
theorem eX7_isAt_10 : mn_dec cX7_isAt 10 = some (13, [28], .if_icmp .ge 18) := by decide +kernel
theorem eX7_isAt_13 : mn_dec cX7_isAt 13 = some (14, [], .aload 0) := by decide +kernel
theorem eX7_isAt_14 : mn_dec cX7_isAt 14 = some (17, [], .getfield 11) := by decide +kernel
theorem eX7_isAt_17 : mn_dec cX7_isAt 17 = some (18, [], .iload 1) := by decide +kernel
theorem eX7_isAt_18 : mn_dec cX7_isAt 18 = some (19, [], .laload) := by decide +kernel
theorem eX7_isAt_19 : mn_dec cX7_isAt 19 = some (20, [], .lload 2) := by decide +kernel
theorem eX7_isAt_20 : mn_dec cX7_isAt 20 = some (21, [], .lcmp) := by decide +kernel
theorem eX7_isAt_21 : mn_dec cX7_isAt 21 = some (24, [28], .ifCond .ne 7) := by decide +kernel
theorem eX7_isAt_24 : mn_dec cX7_isAt 24 = some (25, [], .iconst 1) := by decide +kernel
theorem eX7_isAt_25 : mn_dec cX7_isAt 25 = some (28, [29], .goto 4) := by decide +kernel
theorem eX7_isAt_28 : mn_dec cX7_isAt 28 = some (29, [], .iconst 0) := by decide +kernel
theorem eX7_isAt_29 : mn_dec cX7_isAt 29 = some (30, [], .ireturn) := by decide +kernel
theorem eX7_placeIn_0 : mn_dec cX7_placeIn 0 = some (1, [], .iload 1) := by decide +kernel
theorem eX7_placeIn_1 : mn_dec cX7_placeIn 1 = some (4, [24], .ifCond .lt 23) := by decide +kernel
theorem eX7_placeIn_4 : mn_dec cX7_placeIn 4 = some (5, [], .iload 1) := by decide +kernel
theorem eX7_placeIn_5 : mn_dec cX7_placeIn 5 = some (6, [], .aload 0) := by decide +kernel
theorem eX7_placeIn_6 : mn_dec cX7_placeIn 6 = some (9, [], .getfield 19) := by decide +kernel
theorem eX7_placeIn_9 : mn_dec cX7_placeIn 9 = some (10, [], .arraylength) := by decide +kernel
theorem eX7_placeIn_10 : mn_dec cX7_placeIn 10 = some (13, [24], .if_icmp .ge 14) := by decide +kernel
theorem eX7_placeIn_13 : mn_dec cX7_placeIn 13 = some (14, [], .aload 0) := by decide +kernel
theorem eX7_placeIn_14 : mn_dec cX7_placeIn 14 = some (17, [], .getfield 19) := by decide +kernel
theorem eX7_placeIn_17 : mn_dec cX7_placeIn 17 = some (18, [], .iload 1) := by decide +kernel
theorem eX7_placeIn_18 : mn_dec cX7_placeIn 18 = some (19, [], .iaload) := by decide +kernel
theorem eX7_placeIn_19 : mn_dec cX7_placeIn 19 = some (20, [], .iconst 1) := by decide +kernel
theorem eX7_placeIn_20 : mn_dec cX7_placeIn 20 = some (21, [], .isub) := by decide +kernel
theorem eX7_placeIn_21 : mn_dec cX7_placeIn 21 = some (24, [25], .goto 4) := by decide +kernel
theorem eX7_placeIn_24 : mn_dec cX7_placeIn 24 = some (25, [], .iconst (-1)) := by decide +kernel
theorem eX7_placeIn_25 : mn_dec cX7_placeIn 25 = some (26, [], .ireturn) := by decide +kernel
theorem eX7_comeTo_0 : mn_dec cX7_comeTo 0 = some (1, [], .aload 0) := by decide +kernel
theorem eX7_comeTo_1 : mn_dec cX7_comeTo 1 = some (4, [], .getfield 22) := by decide +kernel
theorem eX7_comeTo_4 : mn_dec cX7_comeTo 4 = some (5, [], .aload 0) := by decide +kernel
theorem eX7_comeTo_5 : mn_dec cX7_comeTo 5 = some (8, [], .getfield 11) := by decide +kernel
theorem eX7_comeTo_8 : mn_dec cX7_comeTo 8 = some (9, [], .arraylength) := by decide +kernel
theorem eX7_comeTo_9 : mn_dec cX7_comeTo 9 = some (12, [55], .if_icmp .ge 46) := by decide +kernel
theorem eX7_comeTo_12 : mn_dec cX7_comeTo 12 = some (13, [], .aload 0) := by decide +kernel
theorem eX7_comeTo_13 : mn_dec cX7_comeTo 13 = some (16, [], .getfield 11) := by decide +kernel
theorem eX7_comeTo_16 : mn_dec cX7_comeTo 16 = some (17, [], .aload 0) := by decide +kernel
theorem eX7_comeTo_17 : mn_dec cX7_comeTo 17 = some (20, [], .getfield 22) := by decide +kernel
theorem eX7_comeTo_20 : mn_dec cX7_comeTo 20 = some (21, [], .lload 1) := by decide +kernel
theorem eX7_comeTo_21 : mn_dec cX7_comeTo 21 = some (22, [], .lastore) := by decide +kernel
theorem eX7_comeTo_22 : mn_dec cX7_comeTo 22 = some (23, [], .aload 0) := by decide +kernel
theorem eX7_comeTo_23 : mn_dec cX7_comeTo 23 = some (26, [], .getfield 15) := by decide +kernel
theorem eX7_comeTo_26 : mn_dec cX7_comeTo 26 = some (27, [], .aload 0) := by decide +kernel
theorem eX7_comeTo_27 : mn_dec cX7_comeTo 27 = some (30, [], .getfield 22) := by decide +kernel
theorem eX7_comeTo_30 : mn_dec cX7_comeTo 30 = some (31, [], .iload 3) := by decide +kernel
theorem eX7_comeTo_31 : mn_dec cX7_comeTo 31 = some (32, [], .iastore) := by decide +kernel
theorem eX7_comeTo_32 : mn_dec cX7_comeTo 32 = some (33, [], .aload 0) := by decide +kernel
theorem eX7_comeTo_33 : mn_dec cX7_comeTo 33 = some (34, [], .dup) := by decide +kernel
theorem eX7_comeTo_34 : mn_dec cX7_comeTo 34 = some (37, [], .getfield 22) := by decide +kernel
theorem eX7_comeTo_37 : mn_dec cX7_comeTo 37 = some (38, [], .iconst 1) := by decide +kernel
theorem eX7_comeTo_38 : mn_dec cX7_comeTo 38 = some (39, [], .iadd) := by decide +kernel
theorem eX7_comeTo_39 : mn_dec cX7_comeTo 39 = some (42, [], .putfield 22) := by decide +kernel
theorem eX7_comeTo_42 : mn_dec cX7_comeTo 42 = some (43, [], .aload 0) := by decide +kernel
theorem eX7_comeTo_43 : mn_dec cX7_comeTo 43 = some (44, [], .aload 0) := by decide +kernel
theorem eX7_comeTo_44 : mn_dec cX7_comeTo 44 = some (45, [], .lload 1) := by decide +kernel
theorem eX7_comeTo_45 : mn_dec cX7_comeTo 45 = some (48, [], .invokevirtual 82) := by decide +kernel
theorem eX7_comeTo_48 : mn_dec cX7_comeTo 48 = some (49, [], .aload 0) := by decide +kernel
theorem eX7_comeTo_49 : mn_dec cX7_comeTo 49 = some (52, [], .getfield 22) := by decide +kernel
theorem eX7_comeTo_52 : mn_dec cX7_comeTo 52 = some (55, [], .invokevirtual 92) := by decide +kernel
theorem eX7_comeTo_55 : mn_dec cX7_comeTo 55 = some (56, [], .return_) := by decide +kernel
theorem eX7_mark_0 : mn_dec cX7_mark 0 = some (1, [], .iload 1) := by decide +kernel
theorem eX7_mark_1 : mn_dec cX7_mark 1 = some (4, [20], .ifCond .lt 19) := by decide +kernel
theorem eX7_mark_4 : mn_dec cX7_mark 4 = some (5, [], .iload 1) := by decide +kernel
theorem eX7_mark_5 : mn_dec cX7_mark 5 = some (6, [], .aload 0) := by decide +kernel
theorem eX7_mark_6 : mn_dec cX7_mark 6 = some (9, [], .getfield 19) := by decide +kernel
theorem eX7_mark_9 : mn_dec cX7_mark 9 = some (10, [], .arraylength) := by decide +kernel
theorem eX7_mark_10 : mn_dec cX7_mark 10 = some (13, [20], .if_icmp .ge 10) := by decide +kernel
theorem eX7_mark_13 : mn_dec cX7_mark 13 = some (14, [], .aload 0) := by decide +kernel
theorem eX7_mark_14 : mn_dec cX7_mark 14 = some (17, [], .getfield 19) := by decide +kernel
theorem eX7_mark_17 : mn_dec cX7_mark 17 = some (18, [], .iload 1) := by decide +kernel
theorem eX7_mark_18 : mn_dec cX7_mark 18 = some (19, [], .iload 2) := by decide +kernel
theorem eX7_mark_19 : mn_dec cX7_mark 19 = some (20, [], .iastore) := by decide +kernel
theorem eX7_mark_20 : mn_dec cX7_mark 20 = some (21, [], .return_) := by decide +kernel
theorem eX7_slotFor_0 : mn_dec cX7_slotFor 0 = some (1, [], .lload 1) := by decide +kernel
theorem eX7_slotFor_1 : mn_dec cX7_slotFor 1 = some (4, [], .ldc2_w 95) := by decide +kernel
theorem eX7_slotFor_4 : mn_dec cX7_slotFor 4 = some (5, [], .lmul) := by decide +kernel
theorem eX7_slotFor_5 : mn_dec cX7_slotFor 5 = some (7, [], .iconst 54) := by decide +kernel
theorem eX7_slotFor_7 : mn_dec cX7_slotFor 7 = some (8, [], .lushr) := by decide +kernel
theorem eX7_slotFor_8 : mn_dec cX7_slotFor 8 = some (9, [], .l2i) := by decide +kernel
theorem eX7_slotFor_9 : mn_dec cX7_slotFor 9 = some (10, [], .istore 3) := by decide +kernel
theorem eX7_slotFor_10 : mn_dec cX7_slotFor 10 = some (11, [], .iconst 0) := by decide +kernel
theorem eX7_slotFor_11 : mn_dec cX7_slotFor 11 = some (13, [], .istore 4) := by decide +kernel
theorem eX7_slotFor_13 : mn_dec cX7_slotFor 13 = some (15, [], .iload 4) := by decide +kernel
theorem eX7_slotFor_15 : mn_dec cX7_slotFor 15 = some (18, [], .iconst 1024) := by decide +kernel
theorem eX7_slotFor_18 : mn_dec cX7_slotFor 18 = some (21, [59], .if_icmp .ge 41) := by decide +kernel
theorem eX7_slotFor_21 : mn_dec cX7_slotFor 21 = some (22, [], .aload 0) := by decide +kernel
theorem eX7_slotFor_22 : mn_dec cX7_slotFor 22 = some (23, [], .iload 3) := by decide +kernel
theorem eX7_slotFor_23 : mn_dec cX7_slotFor 23 = some (26, [], .invokevirtual 85) := by decide +kernel
theorem eX7_slotFor_26 : mn_dec cX7_slotFor 26 = some (28, [], .istore 5) := by decide +kernel
theorem eX7_slotFor_28 : mn_dec cX7_slotFor 28 = some (30, [], .iload 5) := by decide +kernel
theorem eX7_slotFor_30 : mn_dec cX7_slotFor 30 = some (33, [43], .ifCond .lt 13) := by decide +kernel
theorem eX7_slotFor_33 : mn_dec cX7_slotFor 33 = some (34, [], .aload 0) := by decide +kernel
theorem eX7_slotFor_34 : mn_dec cX7_slotFor 34 = some (36, [], .iload 5) := by decide +kernel
theorem eX7_slotFor_36 : mn_dec cX7_slotFor 36 = some (37, [], .lload 1) := by decide +kernel
theorem eX7_slotFor_37 : mn_dec cX7_slotFor 37 = some (40, [], .invokevirtual 88) := by decide +kernel
theorem eX7_slotFor_40 : mn_dec cX7_slotFor 40 = some (43, [45], .ifCond .eq 5) := by decide +kernel
theorem eX7_slotFor_43 : mn_dec cX7_slotFor 43 = some (44, [], .iload 3) := by decide +kernel
theorem eX7_slotFor_44 : mn_dec cX7_slotFor 44 = some (45, [], .ireturn) := by decide +kernel
theorem eX7_slotFor_45 : mn_dec cX7_slotFor 45 = some (46, [], .iload 3) := by decide +kernel
theorem eX7_slotFor_46 : mn_dec cX7_slotFor 46 = some (47, [], .iconst 1) := by decide +kernel
theorem eX7_slotFor_47 : mn_dec cX7_slotFor 47 = some (48, [], .iadd) := by decide +kernel
theorem eX7_slotFor_48 : mn_dec cX7_slotFor 48 = some (51, [], .iconst 1024) := by decide +kernel
theorem eX7_slotFor_51 : mn_dec cX7_slotFor 51 = some (52, [], .irem) := by decide +kernel
theorem eX7_slotFor_52 : mn_dec cX7_slotFor 52 = some (53, [], .istore 3) := by decide +kernel
theorem eX7_slotFor_53 : mn_dec cX7_slotFor 53 = some (56, [], .iinc 4 1) := by decide +kernel
theorem eX7_slotFor_56 : mn_dec cX7_slotFor 56 = some (59, [13], .goto (-43)) := by decide +kernel
theorem eX7_slotFor_59 : mn_dec cX7_slotFor 59 = some (60, [], .iload 3) := by decide +kernel
theorem eX7_slotFor_60 : mn_dec cX7_slotFor 60 = some (61, [], .ireturn) := by decide +kernel
theorem eX8_one_0 : mn_dec cX8_one 0 = some (1, [], .iload 1) := by decide +kernel
theorem eX8_one_1 : mn_dec cX8_one 1 = some (4, [], .invokestatic 58) := by decide +kernel
theorem eX8_one_4 : mn_dec cX8_one 4 = some (7, [18], .ifCond .eq 14) := by decide +kernel
theorem eX8_one_7 : mn_dec cX8_one 7 = some (8, [], .aload 0) := by decide +kernel
theorem eX8_one_8 : mn_dec cX8_one 8 = some (11, [], .getfield 10) := by decide +kernel
theorem eX8_one_11 : mn_dec cX8_one 11 = some (12, [], .iload 1) := by decide +kernel
theorem eX8_one_12 : mn_dec cX8_one 12 = some (15, [], .invokevirtual 62) := by decide +kernel
theorem eX8_one_15 : mn_dec cX8_one 15 = some (18, [20], .goto 5) := by decide +kernel
theorem eX8_one_18 : mn_dec cX8_one 18 = some (20, [], .iconst (-2)) := by decide +kernel
theorem eX8_one_20 : mn_dec cX8_one 20 = some (21, [], .ireturn) := by decide +kernel
theorem eX8_think_0 : mn_dec cX8_think 0 = some (1, [], .aload 0) := by decide +kernel
theorem eX8_think_1 : mn_dec cX8_think 1 = some (4, [], .getfield 10) := by decide +kernel
theorem eX8_think_4 : mn_dec cX8_think 4 = some (5, [], .iload 1) := by decide +kernel
theorem eX8_think_5 : mn_dec cX8_think 5 = some (8, [], .invokevirtual 66) := by decide +kernel
theorem eX8_think_8 : mn_dec cX8_think 8 = some (11, [13], .ifCond .ne 5) := by decide +kernel
theorem eX8_think_11 : mn_dec cX8_think 11 = some (12, [], .iconst (-1)) := by decide +kernel
theorem eX8_think_12 : mn_dec cX8_think 12 = some (13, [], .ireturn) := by decide +kernel
theorem eX8_think_13 : mn_dec cX8_think 13 = some (14, [], .iload 2) := by decide +kernel
theorem eX8_think_14 : mn_dec cX8_think 14 = some (17, [], .invokestatic 58) := by decide +kernel
theorem eX8_think_17 : mn_dec cX8_think 17 = some (20, [23], .ifCond .ne 6) := by decide +kernel
theorem eX8_think_20 : mn_dec cX8_think 20 = some (22, [], .iconst (-2)) := by decide +kernel
theorem eX8_think_22 : mn_dec cX8_think 22 = some (23, [], .ireturn) := by decide +kernel
theorem eX8_think_23 : mn_dec cX8_think 23 = some (24, [], .aload 0) := by decide +kernel
theorem eX8_think_24 : mn_dec cX8_think 24 = some (27, [], .getfield 10) := by decide +kernel
theorem eX8_think_27 : mn_dec cX8_think 27 = some (28, [], .iload 1) := by decide +kernel
theorem eX8_think_28 : mn_dec cX8_think 28 = some (31, [], .invokevirtual 69) := by decide +kernel
theorem eX8_think_31 : mn_dec cX8_think 31 = some (32, [], .istore 3) := by decide +kernel
theorem eX8_think_32 : mn_dec cX8_think 32 = some (33, [], .aload 0) := by decide +kernel
theorem eX8_think_33 : mn_dec cX8_think 33 = some (36, [], .getfield 10) := by decide +kernel
theorem eX8_think_36 : mn_dec cX8_think 36 = some (37, [], .iload 1) := by decide +kernel
theorem eX8_think_37 : mn_dec cX8_think 37 = some (38, [], .iload 2) := by decide +kernel
theorem eX8_think_38 : mn_dec cX8_think 38 = some (41, [], .invokevirtual 72) := by decide +kernel
theorem eX8_think_41 : mn_dec cX8_think 41 = some (42, [], .iload 3) := by decide +kernel
theorem eX8_think_42 : mn_dec cX8_think 42 = some (43, [], .ireturn) := by decide +kernel
theorem eX8_stubborn_0 : mn_dec cX8_stubborn 0 = some (1, [], .aload 0) := by decide +kernel
theorem eX8_stubborn_1 : mn_dec cX8_stubborn 1 = some (4, [], .getfield 10) := by decide +kernel
theorem eX8_stubborn_4 : mn_dec cX8_stubborn 4 = some (5, [], .iload 1) := by decide +kernel
theorem eX8_stubborn_5 : mn_dec cX8_stubborn 5 = some (8, [], .invokevirtual 66) := by decide +kernel
theorem eX8_stubborn_8 : mn_dec cX8_stubborn 8 = some (11, [13], .ifCond .ne 5) := by decide +kernel
theorem eX8_stubborn_11 : mn_dec cX8_stubborn 11 = some (12, [], .iconst (-1)) := by decide +kernel
theorem eX8_stubborn_12 : mn_dec cX8_stubborn 12 = some (13, [], .ireturn) := by decide +kernel
theorem eX8_stubborn_13 : mn_dec cX8_stubborn 13 = some (14, [], .aload 0) := by decide +kernel
theorem eX8_stubborn_14 : mn_dec cX8_stubborn 14 = some (17, [], .getfield 10) := by decide +kernel
theorem eX8_stubborn_17 : mn_dec cX8_stubborn 17 = some (18, [], .iload 1) := by decide +kernel
theorem eX8_stubborn_18 : mn_dec cX8_stubborn 18 = some (21, [], .invokevirtual 76) := by decide +kernel
theorem eX8_stubborn_21 : mn_dec cX8_stubborn 21 = some (24, [28], .ifCond .eq 7) := by decide +kernel
theorem eX8_stubborn_24 : mn_dec cX8_stubborn 24 = some (25, [], .iconst 1) := by decide +kernel
theorem eX8_stubborn_25 : mn_dec cX8_stubborn 25 = some (28, [29], .goto 4) := by decide +kernel
theorem eX8_stubborn_28 : mn_dec cX8_stubborn 28 = some (29, [], .iconst 0) := by decide +kernel
theorem eX8_stubborn_29 : mn_dec cX8_stubborn 29 = some (30, [], .istore 3) := by decide +kernel
theorem eX8_stubborn_30 : mn_dec cX8_stubborn 30 = some (31, [], .aload 0) := by decide +kernel
theorem eX8_stubborn_31 : mn_dec cX8_stubborn 31 = some (34, [], .getfield 10) := by decide +kernel
theorem eX8_stubborn_34 : mn_dec cX8_stubborn 34 = some (35, [], .iload 1) := by decide +kernel
theorem eX8_stubborn_35 : mn_dec cX8_stubborn 35 = some (36, [], .iload 2) := by decide +kernel
theorem eX8_stubborn_36 : mn_dec cX8_stubborn 36 = some (39, [], .invokevirtual 79) := by decide +kernel
theorem eX8_stubborn_39 : mn_dec cX8_stubborn 39 = some (40, [], .iload 3) := by decide +kernel
theorem eX8_stubborn_40 : mn_dec cX8_stubborn 40 = some (41, [], .ireturn) := by decide +kernel
theorem eX8_weight_0 : mn_dec cX8_weight 0 = some (1, [], .aload 0) := by decide +kernel
theorem eX8_weight_1 : mn_dec cX8_weight 1 = some (4, [], .getfield 10) := by decide +kernel
theorem eX8_weight_4 : mn_dec cX8_weight 4 = some (5, [], .iload 1) := by decide +kernel
theorem eX8_weight_5 : mn_dec cX8_weight 5 = some (8, [], .invokevirtual 66) := by decide +kernel
theorem eX8_weight_8 : mn_dec cX8_weight 8 = some (11, [22], .ifCond .eq 14) := by decide +kernel
theorem eX8_weight_11 : mn_dec cX8_weight 11 = some (12, [], .aload 0) := by decide +kernel
theorem eX8_weight_12 : mn_dec cX8_weight 12 = some (15, [], .getfield 10) := by decide +kernel
theorem eX8_weight_15 : mn_dec cX8_weight 15 = some (16, [], .iload 2) := by decide +kernel
theorem eX8_weight_16 : mn_dec cX8_weight 16 = some (19, [], .invokevirtual 66) := by decide +kernel
theorem eX8_weight_19 : mn_dec cX8_weight 19 = some (22, [24], .ifCond .ne 5) := by decide +kernel
theorem eX8_weight_22 : mn_dec cX8_weight 22 = some (23, [], .iconst (-1)) := by decide +kernel
theorem eX8_weight_23 : mn_dec cX8_weight 23 = some (24, [], .ireturn) := by decide +kernel
theorem eX8_weight_24 : mn_dec cX8_weight 24 = some (25, [], .iload 3) := by decide +kernel
theorem eX8_weight_25 : mn_dec cX8_weight 25 = some (26, [], .iconst 0) := by decide +kernel
theorem eX8_weight_26 : mn_dec cX8_weight 26 = some (28, [], .iconst 9) := by decide +kernel
theorem eX8_weight_28 : mn_dec cX8_weight 28 = some (31, [], .invokestatic 83) := by decide +kernel
theorem eX8_weight_31 : mn_dec cX8_weight 31 = some (34, [37], .ifCond .ne 6) := by decide +kernel
theorem eX8_weight_34 : mn_dec cX8_weight 34 = some (36, [], .iconst (-2)) := by decide +kernel
theorem eX8_weight_36 : mn_dec cX8_weight 36 = some (37, [], .ireturn) := by decide +kernel
theorem eX8_weight_37 : mn_dec cX8_weight 37 = some (38, [], .aload 0) := by decide +kernel
theorem eX8_weight_38 : mn_dec cX8_weight 38 = some (41, [], .getfield 10) := by decide +kernel
theorem eX8_weight_41 : mn_dec cX8_weight 41 = some (42, [], .iload 1) := by decide +kernel
theorem eX8_weight_42 : mn_dec cX8_weight 42 = some (43, [], .iload 2) := by decide +kernel
theorem eX8_weight_43 : mn_dec cX8_weight 43 = some (46, [], .invokevirtual 87) := by decide +kernel
theorem eX8_weight_46 : mn_dec cX8_weight 46 = some (48, [], .istore 4) := by decide +kernel
theorem eX8_weight_48 : mn_dec cX8_weight 48 = some (49, [], .aload 0) := by decide +kernel
theorem eX8_weight_49 : mn_dec cX8_weight 49 = some (52, [], .getfield 10) := by decide +kernel
theorem eX8_weight_52 : mn_dec cX8_weight 52 = some (53, [], .iload 1) := by decide +kernel
theorem eX8_weight_53 : mn_dec cX8_weight 53 = some (54, [], .iload 2) := by decide +kernel
theorem eX8_weight_54 : mn_dec cX8_weight 54 = some (55, [], .iload 3) := by decide +kernel
theorem eX8_weight_55 : mn_dec cX8_weight 55 = some (58, [], .invokevirtual 91) := by decide +kernel
theorem eX8_weight_58 : mn_dec cX8_weight 58 = some (60, [], .iload 4) := by decide +kernel
theorem eX8_weight_60 : mn_dec cX8_weight 60 = some (61, [], .ireturn) := by decide +kernel
theorem eX8_ear_0 : mn_dec cX8_ear 0 = some (1, [], .iload 1) := by decide +kernel
theorem eX8_ear_1 : mn_dec cX8_ear 1 = some (4, [], .invokestatic 58) := by decide +kernel
theorem eX8_ear_4 : mn_dec cX8_ear 4 = some (7, [10], .ifCond .ne 6) := by decide +kernel
theorem eX8_ear_7 : mn_dec cX8_ear 7 = some (9, [], .iconst (-2)) := by decide +kernel
theorem eX8_ear_9 : mn_dec cX8_ear 9 = some (10, [], .ireturn) := by decide +kernel
theorem eX8_ear_10 : mn_dec cX8_ear 10 = some (11, [], .aload 0) := by decide +kernel
theorem eX8_ear_11 : mn_dec cX8_ear 11 = some (14, [], .getfield 10) := by decide +kernel
theorem eX8_ear_14 : mn_dec cX8_ear 14 = some (17, [], .invokevirtual 95) := by decide +kernel
theorem eX8_ear_17 : mn_dec cX8_ear 17 = some (18, [], .istore 2) := by decide +kernel
theorem eX8_ear_18 : mn_dec cX8_ear 18 = some (19, [], .aload 0) := by decide +kernel
theorem eX8_ear_19 : mn_dec cX8_ear 19 = some (22, [], .getfield 10) := by decide +kernel
theorem eX8_ear_22 : mn_dec cX8_ear 22 = some (23, [], .iload 1) := by decide +kernel
theorem eX8_ear_23 : mn_dec cX8_ear 23 = some (26, [], .invokevirtual 99) := by decide +kernel
theorem eX8_ear_26 : mn_dec cX8_ear 26 = some (27, [], .iload 2) := by decide +kernel
theorem eX8_ear_27 : mn_dec cX8_ear 27 = some (28, [], .ireturn) := by decide +kernel
theorem eX8_rounds_0 : mn_dec cX8_rounds 0 = some (1, [], .iload 1) := by decide +kernel
theorem eX8_rounds_1 : mn_dec cX8_rounds 1 = some (2, [], .iconst 1) := by decide +kernel
theorem eX8_rounds_2 : mn_dec cX8_rounds 2 = some (5, [], .iconst 300) := by decide +kernel
theorem eX8_rounds_5 : mn_dec cX8_rounds 5 = some (8, [], .invokestatic 83) := by decide +kernel
theorem eX8_rounds_8 : mn_dec cX8_rounds 8 = some (11, [26], .ifCond .eq 18) := by decide +kernel
theorem eX8_rounds_11 : mn_dec cX8_rounds 11 = some (12, [], .aload 0) := by decide +kernel
theorem eX8_rounds_12 : mn_dec cX8_rounds 12 = some (15, [], .getfield 19) := by decide +kernel
theorem eX8_rounds_15 : mn_dec cX8_rounds 15 = some (16, [], .aload 0) := by decide +kernel
theorem eX8_rounds_16 : mn_dec cX8_rounds 16 = some (19, [], .getfield 10) := by decide +kernel
theorem eX8_rounds_19 : mn_dec cX8_rounds 19 = some (20, [], .iload 1) := by decide +kernel
theorem eX8_rounds_20 : mn_dec cX8_rounds 20 = some (23, [], .invokevirtual 103) := by decide +kernel
theorem eX8_rounds_23 : mn_dec cX8_rounds 23 = some (26, [28], .goto 5) := by decide +kernel
theorem eX8_rounds_26 : mn_dec cX8_rounds 26 = some (28, [], .iconst (-2)) := by decide +kernel
theorem eX8_rounds_28 : mn_dec cX8_rounds 28 = some (29, [], .ireturn) := by decide +kernel
theorem eX8_settle_0 : mn_dec cX8_settle 0 = some (1, [], .aload 0) := by decide +kernel
theorem eX8_settle_1 : mn_dec cX8_settle 1 = some (4, [], .getfield 19) := by decide +kernel
theorem eX8_settle_4 : mn_dec cX8_settle 4 = some (5, [], .aload 0) := by decide +kernel
theorem eX8_settle_5 : mn_dec cX8_settle 5 = some (8, [], .getfield 10) := by decide +kernel
theorem eX8_settle_8 : mn_dec cX8_settle 8 = some (11, [], .invokevirtual 107) := by decide +kernel
theorem eX8_settle_11 : mn_dec cX8_settle 11 = some (12, [], .ireturn) := by decide +kernel
theorem eX8_about_0 : mn_dec cX8_about 0 = some (1, [], .aload 0) := by decide +kernel
theorem eX8_about_1 : mn_dec cX8_about 1 = some (4, [], .getfield 10) := by decide +kernel
theorem eX8_about_4 : mn_dec cX8_about 4 = some (5, [], .iload 1) := by decide +kernel
theorem eX8_about_5 : mn_dec cX8_about 5 = some (8, [], .invokevirtual 66) := by decide +kernel
theorem eX8_about_8 : mn_dec cX8_about 8 = some (11, [13], .ifCond .ne 5) := by decide +kernel
theorem eX8_about_11 : mn_dec cX8_about 11 = some (12, [], .iconst (-1)) := by decide +kernel
theorem eX8_about_12 : mn_dec cX8_about 12 = some (13, [], .ireturn) := by decide +kernel
theorem eX8_about_13 : mn_dec cX8_about 13 = some (14, [], .iload 2) := by decide +kernel
theorem eX8_about_14 : mn_dec cX8_about 14 = some (44, [106, 44, 53, 70, 79], .tableswitch 92 0 3 #[30, 39, 56, 65]) := by decide +kernel
theorem eX8_about_44 : mn_dec cX8_about 44 = some (45, [], .aload 0) := by decide +kernel
theorem eX8_about_45 : mn_dec cX8_about 45 = some (48, [], .getfield 10) := by decide +kernel
theorem eX8_about_48 : mn_dec cX8_about 48 = some (49, [], .iload 1) := by decide +kernel
theorem eX8_about_49 : mn_dec cX8_about 49 = some (52, [], .invokevirtual 69) := by decide +kernel
theorem eX8_about_52 : mn_dec cX8_about 52 = some (53, [], .ireturn) := by decide +kernel
theorem eX8_about_53 : mn_dec cX8_about 53 = some (54, [], .aload 0) := by decide +kernel
theorem eX8_about_54 : mn_dec cX8_about 54 = some (57, [], .getfield 10) := by decide +kernel
theorem eX8_about_57 : mn_dec cX8_about 57 = some (58, [], .iload 1) := by decide +kernel
theorem eX8_about_58 : mn_dec cX8_about 58 = some (61, [], .invokevirtual 76) := by decide +kernel
theorem eX8_about_61 : mn_dec cX8_about 61 = some (64, [68], .ifCond .eq 7) := by decide +kernel
theorem eX8_about_64 : mn_dec cX8_about 64 = some (65, [], .iconst 1) := by decide +kernel
theorem eX8_about_65 : mn_dec cX8_about 65 = some (68, [69], .goto 4) := by decide +kernel
theorem eX8_about_68 : mn_dec cX8_about 68 = some (69, [], .iconst 0) := by decide +kernel
theorem eX8_about_69 : mn_dec cX8_about 69 = some (70, [], .ireturn) := by decide +kernel
theorem eX8_about_70 : mn_dec cX8_about 70 = some (71, [], .aload 0) := by decide +kernel
theorem eX8_about_71 : mn_dec cX8_about 71 = some (74, [], .getfield 10) := by decide +kernel
theorem eX8_about_74 : mn_dec cX8_about 74 = some (75, [], .iload 1) := by decide +kernel
theorem eX8_about_75 : mn_dec cX8_about 75 = some (78, [], .invokevirtual 111) := by decide +kernel
theorem eX8_about_78 : mn_dec cX8_about 78 = some (79, [], .ireturn) := by decide +kernel
theorem eX8_about_79 : mn_dec cX8_about 79 = some (80, [], .aload 0) := by decide +kernel
theorem eX8_about_80 : mn_dec cX8_about 80 = some (83, [], .getfield 26) := by decide +kernel
theorem eX8_about_83 : mn_dec cX8_about 83 = some (84, [], .aload 0) := by decide +kernel
theorem eX8_about_84 : mn_dec cX8_about 84 = some (87, [], .getfield 10) := by decide +kernel
theorem eX8_about_87 : mn_dec cX8_about 87 = some (90, [], .invokevirtual 114) := by decide +kernel
theorem eX8_about_90 : mn_dec cX8_about 90 = some (91, [], .aload 0) := by decide +kernel
theorem eX8_about_91 : mn_dec cX8_about 91 = some (94, [], .getfield 26) := by decide +kernel
theorem eX8_about_94 : mn_dec cX8_about 94 = some (95, [], .aload 0) := by decide +kernel
theorem eX8_about_95 : mn_dec cX8_about 95 = some (98, [], .getfield 26) := by decide +kernel
theorem eX8_about_98 : mn_dec cX8_about 98 = some (99, [], .iload 1) := by decide +kernel
theorem eX8_about_99 : mn_dec cX8_about 99 = some (102, [], .invokevirtual 118) := by decide +kernel
theorem eX8_about_102 : mn_dec cX8_about 102 = some (105, [], .invokevirtual 121) := by decide +kernel
theorem eX8_about_105 : mn_dec cX8_about 105 = some (106, [], .ireturn) := by decide +kernel
theorem eX8_about_106 : mn_dec cX8_about 106 = some (108, [], .iconst (-2)) := by decide +kernel
theorem eX8_about_108 : mn_dec cX8_about 108 = some (109, [], .ireturn) := by decide +kernel
theorem eX8_told_0 : mn_dec cX8_told 0 = some (1, [], .iload 1) := by decide +kernel
theorem eX8_told_1 : mn_dec cX8_told 1 = some (44, [97, 44, 52, 60, 65, 73, 81, 89], .tableswitch 96 0 6 #[43, 51, 59, 64, 72, 80, 88]) := by decide +kernel
theorem eX8_told_44 : mn_dec cX8_told 44 = some (45, [], .aload 0) := by decide +kernel
theorem eX8_told_45 : mn_dec cX8_told 45 = some (48, [], .getfield 10) := by decide +kernel
theorem eX8_told_48 : mn_dec cX8_told 48 = some (51, [], .invokevirtual 124) := by decide +kernel
theorem eX8_told_51 : mn_dec cX8_told 51 = some (52, [], .ireturn) := by decide +kernel
theorem eX8_told_52 : mn_dec cX8_told 52 = some (53, [], .aload 0) := by decide +kernel
theorem eX8_told_53 : mn_dec cX8_told 53 = some (56, [], .getfield 10) := by decide +kernel
theorem eX8_told_56 : mn_dec cX8_told 56 = some (59, [], .invokevirtual 95) := by decide +kernel
theorem eX8_told_59 : mn_dec cX8_told 59 = some (60, [], .ireturn) := by decide +kernel
theorem eX8_told_60 : mn_dec cX8_told 60 = some (61, [], .aload 0) := by decide +kernel
theorem eX8_told_61 : mn_dec cX8_told 61 = some (64, [], .invokevirtual 127) := by decide +kernel
theorem eX8_told_64 : mn_dec cX8_told 64 = some (65, [], .ireturn) := by decide +kernel
theorem eX8_told_65 : mn_dec cX8_told 65 = some (66, [], .aload 0) := by decide +kernel
theorem eX8_told_66 : mn_dec cX8_told 66 = some (69, [], .getfield 10) := by decide +kernel
theorem eX8_told_69 : mn_dec cX8_told 69 = some (72, [], .invokevirtual 130) := by decide +kernel
theorem eX8_told_72 : mn_dec cX8_told 72 = some (73, [], .ireturn) := by decide +kernel
theorem eX8_told_73 : mn_dec cX8_told 73 = some (74, [], .aload 0) := by decide +kernel
theorem eX8_told_74 : mn_dec cX8_told 74 = some (77, [], .getfield 10) := by decide +kernel
theorem eX8_told_77 : mn_dec cX8_told 77 = some (80, [], .invokevirtual 133) := by decide +kernel
theorem eX8_told_80 : mn_dec cX8_told 80 = some (81, [], .ireturn) := by decide +kernel
theorem eX8_told_81 : mn_dec cX8_told 81 = some (82, [], .aload 0) := by decide +kernel
theorem eX8_told_82 : mn_dec cX8_told 82 = some (85, [], .getfield 10) := by decide +kernel
theorem eX8_told_85 : mn_dec cX8_told 85 = some (88, [], .invokevirtual 136) := by decide +kernel
theorem eX8_told_88 : mn_dec cX8_told 88 = some (89, [], .ireturn) := by decide +kernel
theorem eX8_told_89 : mn_dec cX8_told 89 = some (90, [], .aload 0) := by decide +kernel
theorem eX8_told_90 : mn_dec cX8_told 90 = some (93, [], .getfield 10) := by decide +kernel
theorem eX8_told_93 : mn_dec cX8_told 93 = some (96, [], .invokevirtual 139) := by decide +kernel
theorem eX8_told_96 : mn_dec cX8_told 96 = some (97, [], .ireturn) := by decide +kernel
theorem eX8_told_97 : mn_dec cX8_told 97 = some (99, [], .iconst (-2)) := by decide +kernel
theorem eX8_told_99 : mn_dec cX8_told 99 = some (100, [], .ireturn) := by decide +kernel
theorem eX8_keep_0 : mn_dec cX8_keep 0 = some (1, [], .aload 0) := by decide +kernel
theorem eX8_keep_1 : mn_dec cX8_keep 1 = some (4, [], .getfield 33) := by decide +kernel
theorem eX8_keep_4 : mn_dec cX8_keep 4 = some (5, [], .aload 0) := by decide +kernel
theorem eX8_keep_5 : mn_dec cX8_keep 5 = some (8, [], .getfield 10) := by decide +kernel
theorem eX8_keep_8 : mn_dec cX8_keep 8 = some (11, [], .invokevirtual 142) := by decide +kernel
theorem eX8_keep_11 : mn_dec cX8_keep 11 = some (12, [], .ireturn) := by decide +kernel
theorem eX8_back_0 : mn_dec cX8_back 0 = some (1, [], .aload 0) := by decide +kernel
theorem eX8_back_1 : mn_dec cX8_back 1 = some (4, [], .getfield 33) := by decide +kernel
theorem eX8_back_4 : mn_dec cX8_back 4 = some (7, [], .invokevirtual 145) := by decide +kernel
theorem eX8_back_7 : mn_dec cX8_back 7 = some (10, [24], .ifCond .eq 17) := by decide +kernel
theorem eX8_back_10 : mn_dec cX8_back 10 = some (11, [], .aload 0) := by decide +kernel
theorem eX8_back_11 : mn_dec cX8_back 11 = some (14, [], .getfield 33) := by decide +kernel
theorem eX8_back_14 : mn_dec cX8_back 14 = some (15, [], .aload 0) := by decide +kernel
theorem eX8_back_15 : mn_dec cX8_back 15 = some (18, [], .getfield 10) := by decide +kernel
theorem eX8_back_18 : mn_dec cX8_back 18 = some (21, [], .invokevirtual 149) := by decide +kernel
theorem eX8_back_21 : mn_dec cX8_back 21 = some (24, [26], .goto 5) := by decide +kernel
theorem eX8_back_24 : mn_dec cX8_back 24 = some (26, [], .iconst (-3)) := by decide +kernel
theorem eX8_back_26 : mn_dec cX8_back 26 = some (27, [], .ireturn) := by decide +kernel
theorem eX8_width_0 : mn_dec cX8_width 0 = some (1, [], .iload 1) := by decide +kernel
theorem eX8_width_1 : mn_dec cX8_width 1 = some (4, [], .invokestatic 58) := by decide +kernel
theorem eX8_width_4 : mn_dec cX8_width 4 = some (7, [36], .ifCond .eq 32) := by decide +kernel
theorem eX8_width_7 : mn_dec cX8_width 7 = some (8, [], .iload 2) := by decide +kernel
theorem eX8_width_8 : mn_dec cX8_width 8 = some (11, [], .invokestatic 58) := by decide +kernel
theorem eX8_width_11 : mn_dec cX8_width 11 = some (14, [36], .ifCond .eq 25) := by decide +kernel
theorem eX8_width_14 : mn_dec cX8_width 14 = some (15, [], .iload 2) := by decide +kernel
theorem eX8_width_15 : mn_dec cX8_width 15 = some (16, [], .iload 1) := by decide +kernel
theorem eX8_width_16 : mn_dec cX8_width 16 = some (17, [], .iload 1) := by decide +kernel
theorem eX8_width_17 : mn_dec cX8_width 17 = some (19, [], .iconst 30) := by decide +kernel
theorem eX8_width_19 : mn_dec cX8_width 19 = some (20, [], .iadd) := by decide +kernel
theorem eX8_width_20 : mn_dec cX8_width 20 = some (23, [], .invokestatic 83) := by decide +kernel
theorem eX8_width_23 : mn_dec cX8_width 23 = some (26, [36], .ifCond .eq 13) := by decide +kernel
theorem eX8_width_26 : mn_dec cX8_width 26 = some (27, [], .iload 3) := by decide +kernel
theorem eX8_width_27 : mn_dec cX8_width 27 = some (28, [], .iconst 1) := by decide +kernel
theorem eX8_width_28 : mn_dec cX8_width 28 = some (30, [], .iconst 12) := by decide +kernel
theorem eX8_width_30 : mn_dec cX8_width 30 = some (33, [], .invokestatic 83) := by decide +kernel
theorem eX8_width_33 : mn_dec cX8_width 33 = some (36, [39], .ifCond .ne 6) := by decide +kernel
theorem eX8_width_36 : mn_dec cX8_width 36 = some (38, [], .iconst (-2)) := by decide +kernel
theorem eX8_width_38 : mn_dec cX8_width 38 = some (39, [], .ireturn) := by decide +kernel
theorem eX8_width_39 : mn_dec cX8_width 39 = some (40, [], .aload 0) := by decide +kernel
theorem eX8_width_40 : mn_dec cX8_width 40 = some (43, [], .getfield 10) := by decide +kernel
theorem eX8_width_43 : mn_dec cX8_width 43 = some (46, [], .invokevirtual 95) := by decide +kernel
theorem eX8_width_46 : mn_dec cX8_width 46 = some (48, [], .istore 4) := by decide +kernel
theorem eX8_width_48 : mn_dec cX8_width 48 = some (50, [], .iconst (-6)) := by decide +kernel
theorem eX8_width_50 : mn_dec cX8_width 50 = some (52, [], .istore 5) := by decide +kernel
theorem eX8_width_52 : mn_dec cX8_width 52 = some (53, [], .aload 0) := by decide +kernel
theorem eX8_width_53 : mn_dec cX8_width 53 = some (56, [], .getfield 19) := by decide +kernel
theorem eX8_width_56 : mn_dec cX8_width 56 = some (57, [], .aload 0) := by decide +kernel
theorem eX8_width_57 : mn_dec cX8_width 57 = some (60, [], .getfield 10) := by decide +kernel
theorem eX8_width_60 : mn_dec cX8_width 60 = some (63, [], .invokevirtual 152) := by decide +kernel
theorem eX8_width_63 : mn_dec cX8_width 63 = some (64, [], .iload 1) := by decide +kernel
theorem eX8_width_64 : mn_dec cX8_width 64 = some (66, [], .istore 6) := by decide +kernel
theorem eX8_width_66 : mn_dec cX8_width 66 = some (68, [], .iload 6) := by decide +kernel
theorem eX8_width_68 : mn_dec cX8_width 68 = some (69, [], .iload 2) := by decide +kernel
theorem eX8_width_69 : mn_dec cX8_width 69 = some (72, [133], .if_icmp .gt 64) := by decide +kernel
theorem eX8_width_72 : mn_dec cX8_width 72 = some (74, [], .iload 5) := by decide +kernel
theorem eX8_width_74 : mn_dec cX8_width 74 = some (76, [], .iconst (-6)) := by decide +kernel
theorem eX8_width_76 : mn_dec cX8_width 76 = some (79, [133], .if_icmp .ne 57) := by decide +kernel
theorem eX8_width_79 : mn_dec cX8_width 79 = some (80, [], .aload 0) := by decide +kernel
theorem eX8_width_80 : mn_dec cX8_width 80 = some (83, [], .getfield 10) := by decide +kernel
theorem eX8_width_83 : mn_dec cX8_width 83 = some (85, [], .iload 6) := by decide +kernel
theorem eX8_width_85 : mn_dec cX8_width 85 = some (88, [], .invokevirtual 99) := by decide +kernel
theorem eX8_width_88 : mn_dec cX8_width 88 = some (89, [], .aload 0) := by decide +kernel
theorem eX8_width_89 : mn_dec cX8_width 89 = some (92, [], .getfield 19) := by decide +kernel
theorem eX8_width_92 : mn_dec cX8_width 92 = some (93, [], .aload 0) := by decide +kernel
theorem eX8_width_93 : mn_dec cX8_width 93 = some (96, [], .getfield 10) := by decide +kernel
theorem eX8_width_96 : mn_dec cX8_width 96 = some (99, [], .invokevirtual 107) := by decide +kernel
theorem eX8_width_99 : mn_dec cX8_width 99 = some (101, [], .iconst (-7)) := by decide +kernel
theorem eX8_width_101 : mn_dec cX8_width 101 = some (104, [116], .if_icmp .eq 15) := by decide +kernel
theorem eX8_width_104 : mn_dec cX8_width 104 = some (105, [], .aload 0) := by decide +kernel
theorem eX8_width_105 : mn_dec cX8_width 105 = some (108, [], .invokevirtual 127) := by decide +kernel
theorem eX8_width_108 : mn_dec cX8_width 108 = some (109, [], .iload 3) := by decide +kernel
theorem eX8_width_109 : mn_dec cX8_width 109 = some (112, [116], .if_icmp .gt 7) := by decide +kernel
theorem eX8_width_112 : mn_dec cX8_width 112 = some (114, [], .iload 6) := by decide +kernel
theorem eX8_width_114 : mn_dec cX8_width 114 = some (116, [], .istore 5) := by decide +kernel
theorem eX8_width_116 : mn_dec cX8_width 116 = some (117, [], .aload 0) := by decide +kernel
theorem eX8_width_117 : mn_dec cX8_width 117 = some (120, [], .getfield 19) := by decide +kernel
theorem eX8_width_120 : mn_dec cX8_width 120 = some (121, [], .aload 0) := by decide +kernel
theorem eX8_width_121 : mn_dec cX8_width 121 = some (124, [], .getfield 10) := by decide +kernel
theorem eX8_width_124 : mn_dec cX8_width 124 = some (127, [], .invokevirtual 155) := by decide +kernel
theorem eX8_width_127 : mn_dec cX8_width 127 = some (130, [], .iinc 6 1) := by decide +kernel
theorem eX8_width_130 : mn_dec cX8_width 130 = some (133, [66], .goto (-64)) := by decide +kernel
theorem eX8_width_133 : mn_dec cX8_width 133 = some (134, [], .aload 0) := by decide +kernel
theorem eX8_width_134 : mn_dec cX8_width 134 = some (137, [], .getfield 10) := by decide +kernel
theorem eX8_width_137 : mn_dec cX8_width 137 = some (139, [], .iload 4) := by decide +kernel
theorem eX8_width_139 : mn_dec cX8_width 139 = some (142, [], .invokevirtual 99) := by decide +kernel
theorem eX8_width_142 : mn_dec cX8_width 142 = some (144, [], .iload 5) := by decide +kernel
theorem eX8_width_144 : mn_dec cX8_width 144 = some (145, [], .ireturn) := by decide +kernel
theorem eX8_leads_0 : mn_dec cX8_leads 0 = some (1, [], .aload 0) := by decide +kernel
theorem eX8_leads_1 : mn_dec cX8_leads 1 = some (4, [], .getfield 10) := by decide +kernel
theorem eX8_leads_4 : mn_dec cX8_leads 4 = some (5, [], .iload 1) := by decide +kernel
theorem eX8_leads_5 : mn_dec cX8_leads 5 = some (8, [], .invokevirtual 66) := by decide +kernel
theorem eX8_leads_8 : mn_dec cX8_leads 8 = some (11, [22], .ifCond .eq 14) := by decide +kernel
theorem eX8_leads_11 : mn_dec cX8_leads 11 = some (12, [], .aload 0) := by decide +kernel
theorem eX8_leads_12 : mn_dec cX8_leads 12 = some (15, [], .getfield 10) := by decide +kernel
theorem eX8_leads_15 : mn_dec cX8_leads 15 = some (16, [], .iload 2) := by decide +kernel
theorem eX8_leads_16 : mn_dec cX8_leads 16 = some (19, [], .invokevirtual 66) := by decide +kernel
theorem eX8_leads_19 : mn_dec cX8_leads 19 = some (22, [24], .ifCond .ne 5) := by decide +kernel
theorem eX8_leads_22 : mn_dec cX8_leads 22 = some (23, [], .iconst (-1)) := by decide +kernel
theorem eX8_leads_23 : mn_dec cX8_leads 23 = some (24, [], .ireturn) := by decide +kernel
theorem eX8_leads_24 : mn_dec cX8_leads 24 = some (25, [], .aload 0) := by decide +kernel
theorem eX8_leads_25 : mn_dec cX8_leads 25 = some (28, [], .getfield 26) := by decide +kernel
theorem eX8_leads_28 : mn_dec cX8_leads 28 = some (29, [], .aload 0) := by decide +kernel
theorem eX8_leads_29 : mn_dec cX8_leads 29 = some (32, [], .getfield 10) := by decide +kernel
theorem eX8_leads_32 : mn_dec cX8_leads 32 = some (35, [], .invokevirtual 158) := by decide +kernel
theorem eX8_leads_35 : mn_dec cX8_leads 35 = some (36, [], .aload 0) := by decide +kernel
theorem eX8_leads_36 : mn_dec cX8_leads 36 = some (39, [], .getfield 26) := by decide +kernel
theorem eX8_leads_39 : mn_dec cX8_leads 39 = some (40, [], .iload 1) := by decide +kernel
theorem eX8_leads_40 : mn_dec cX8_leads 40 = some (41, [], .iload 2) := by decide +kernel
theorem eX8_leads_41 : mn_dec cX8_leads 41 = some (44, [], .invokevirtual 161) := by decide +kernel
theorem eX8_leads_44 : mn_dec cX8_leads 44 = some (47, [51], .ifCond .eq 7) := by decide +kernel
theorem eX8_leads_47 : mn_dec cX8_leads 47 = some (48, [], .iconst 1) := by decide +kernel
theorem eX8_leads_48 : mn_dec cX8_leads 48 = some (51, [52], .goto 4) := by decide +kernel
theorem eX8_leads_51 : mn_dec cX8_leads 51 = some (52, [], .iconst 0) := by decide +kernel
theorem eX8_leads_52 : mn_dec cX8_leads 52 = some (53, [], .ireturn) := by decide +kernel
theorem eX8_share_0 : mn_dec cX8_share 0 = some (1, [], .aload 0) := by decide +kernel
theorem eX8_share_1 : mn_dec cX8_share 1 = some (4, [], .getfield 10) := by decide +kernel
theorem eX8_share_4 : mn_dec cX8_share 4 = some (5, [], .iload 1) := by decide +kernel
theorem eX8_share_5 : mn_dec cX8_share 5 = some (8, [], .invokevirtual 66) := by decide +kernel
theorem eX8_share_8 : mn_dec cX8_share 8 = some (11, [15], .ifCond .ne 7) := by decide +kernel
theorem eX8_share_11 : mn_dec cX8_share 11 = some (14, [], .ldc2_w 165) := by decide +kernel
theorem eX8_share_14 : mn_dec cX8_share 14 = some (15, [], .lreturn) := by decide +kernel
theorem eX8_share_15 : mn_dec cX8_share 15 = some (16, [], .iload 2) := by decide +kernel
theorem eX8_share_16 : mn_dec cX8_share 16 = some (17, [], .iconst 0) := by decide +kernel
theorem eX8_share_17 : mn_dec cX8_share 17 = some (18, [], .iconst 1) := by decide +kernel
theorem eX8_share_18 : mn_dec cX8_share 18 = some (21, [], .invokestatic 83) := by decide +kernel
theorem eX8_share_21 : mn_dec cX8_share 21 = some (24, [28], .ifCond .ne 7) := by decide +kernel
theorem eX8_share_24 : mn_dec cX8_share 24 = some (27, [], .ldc2_w 167) := by decide +kernel
theorem eX8_share_27 : mn_dec cX8_share 27 = some (28, [], .lreturn) := by decide +kernel
theorem eX8_share_28 : mn_dec cX8_share 28 = some (29, [], .aload 0) := by decide +kernel
theorem eX8_share_29 : mn_dec cX8_share 29 = some (32, [], .getfield 40) := by decide +kernel
theorem eX8_share_32 : mn_dec cX8_share 32 = some (33, [], .aload 0) := by decide +kernel
theorem eX8_share_33 : mn_dec cX8_share 33 = some (36, [], .getfield 10) := by decide +kernel
theorem eX8_share_36 : mn_dec cX8_share 36 = some (37, [], .aload 0) := by decide +kernel
theorem eX8_share_37 : mn_dec cX8_share 37 = some (40, [], .getfield 26) := by decide +kernel
theorem eX8_share_40 : mn_dec cX8_share 40 = some (43, [], .invokevirtual 169) := by decide +kernel
theorem eX8_share_43 : mn_dec cX8_share 43 = some (46, [50], .ifCond .ne 7) := by decide +kernel
theorem eX8_share_46 : mn_dec cX8_share 46 = some (49, [], .ldc2_w 173) := by decide +kernel
theorem eX8_share_49 : mn_dec cX8_share 49 = some (50, [], .lreturn) := by decide +kernel
theorem eX8_share_50 : mn_dec cX8_share 50 = some (51, [], .aload 0) := by decide +kernel
theorem eX8_share_51 : mn_dec cX8_share 51 = some (54, [], .getfield 40) := by decide +kernel
theorem eX8_share_54 : mn_dec cX8_share 54 = some (55, [], .aload 0) := by decide +kernel
theorem eX8_share_55 : mn_dec cX8_share 55 = some (58, [], .getfield 10) := by decide +kernel
theorem eX8_share_58 : mn_dec cX8_share 58 = some (61, [], .invokevirtual 175) := by decide +kernel
theorem eX8_share_61 : mn_dec cX8_share 61 = some (62, [], .aload 0) := by decide +kernel
theorem eX8_share_62 : mn_dec cX8_share 62 = some (65, [], .getfield 40) := by decide +kernel
theorem eX8_share_65 : mn_dec cX8_share 65 = some (66, [], .iload 1) := by decide +kernel
theorem eX8_share_66 : mn_dec cX8_share 66 = some (69, [], .invokevirtual 178) := by decide +kernel
theorem eX8_share_69 : mn_dec cX8_share 69 = some (70, [], .aload 0) := by decide +kernel
theorem eX8_share_70 : mn_dec cX8_share 70 = some (73, [], .getfield 40) := by decide +kernel
theorem eX8_share_73 : mn_dec cX8_share 73 = some (76, [], .invokevirtual 182) := by decide +kernel
theorem eX8_share_76 : mn_dec cX8_share 76 = some (77, [], .iload 2) := by decide +kernel
theorem eX8_share_77 : mn_dec cX8_share 77 = some (80, [], .invokestatic 186) := by decide +kernel
theorem eX8_share_80 : mn_dec cX8_share 80 = some (81, [], .lreturn) := by decide +kernel
theorem eX8_end_0 : mn_dec cX8_end 0 = some (1, [], .iload 1) := by decide +kernel
theorem eX8_end_1 : mn_dec cX8_end 1 = some (2, [], .iconst 0) := by decide +kernel
theorem eX8_end_2 : mn_dec cX8_end 2 = some (3, [], .iconst 1) := by decide +kernel
theorem eX8_end_3 : mn_dec cX8_end 3 = some (6, [], .invokestatic 83) := by decide +kernel
theorem eX8_end_6 : mn_dec cX8_end 6 = some (9, [13], .ifCond .ne 7) := by decide +kernel
theorem eX8_end_9 : mn_dec cX8_end 9 = some (12, [], .ldc2_w 167) := by decide +kernel
theorem eX8_end_12 : mn_dec cX8_end 12 = some (13, [], .lreturn) := by decide +kernel
theorem eX8_end_13 : mn_dec cX8_end 13 = some (14, [], .aload 0) := by decide +kernel
theorem eX8_end_14 : mn_dec cX8_end 14 = some (17, [], .getfield 40) := by decide +kernel
theorem eX8_end_17 : mn_dec cX8_end 17 = some (18, [], .aload 0) := by decide +kernel
theorem eX8_end_18 : mn_dec cX8_end 18 = some (21, [], .getfield 10) := by decide +kernel
theorem eX8_end_21 : mn_dec cX8_end 21 = some (22, [], .aload 0) := by decide +kernel
theorem eX8_end_22 : mn_dec cX8_end 22 = some (25, [], .getfield 26) := by decide +kernel
theorem eX8_end_25 : mn_dec cX8_end 25 = some (28, [], .invokevirtual 169) := by decide +kernel
theorem eX8_end_28 : mn_dec cX8_end 28 = some (31, [35], .ifCond .ne 7) := by decide +kernel
theorem eX8_end_31 : mn_dec cX8_end 31 = some (34, [], .ldc2_w 173) := by decide +kernel
theorem eX8_end_34 : mn_dec cX8_end 34 = some (35, [], .lreturn) := by decide +kernel
theorem eX8_end_35 : mn_dec cX8_end 35 = some (36, [], .aload 0) := by decide +kernel
theorem eX8_end_36 : mn_dec cX8_end 36 = some (39, [], .getfield 40) := by decide +kernel
theorem eX8_end_39 : mn_dec cX8_end 39 = some (40, [], .aload 0) := by decide +kernel
theorem eX8_end_40 : mn_dec cX8_end 40 = some (43, [], .getfield 10) := by decide +kernel
theorem eX8_end_43 : mn_dec cX8_end 43 = some (46, [], .invokevirtual 175) := by decide +kernel
theorem eX8_end_46 : mn_dec cX8_end 46 = some (47, [], .aload 0) := by decide +kernel
theorem eX8_end_47 : mn_dec cX8_end 47 = some (50, [], .getfield 40) := by decide +kernel
theorem eX8_end_50 : mn_dec cX8_end 50 = some (51, [], .aload 0) := by decide +kernel
theorem eX8_end_51 : mn_dec cX8_end 51 = some (54, [], .getfield 10) := by decide +kernel
theorem eX8_end_54 : mn_dec cX8_end 54 = some (57, [], .invokevirtual 190) := by decide +kernel
theorem eX8_end_57 : mn_dec cX8_end 57 = some (58, [], .aload 0) := by decide +kernel
theorem eX8_end_58 : mn_dec cX8_end 58 = some (61, [], .getfield 40) := by decide +kernel
theorem eX8_end_61 : mn_dec cX8_end 61 = some (64, [], .invokevirtual 182) := by decide +kernel
theorem eX8_end_64 : mn_dec cX8_end 64 = some (65, [], .iload 1) := by decide +kernel
theorem eX8_end_65 : mn_dec cX8_end 65 = some (68, [], .invokestatic 186) := by decide +kernel
theorem eX8_end_68 : mn_dec cX8_end 68 = some (69, [], .lreturn) := by decide +kernel
theorem eX8_rest_0 : mn_dec cX8_rest 0 = some (1, [], .aload 0) := by decide +kernel
theorem eX8_rest_1 : mn_dec cX8_rest 1 = some (4, [], .getfield 10) := by decide +kernel
theorem eX8_rest_4 : mn_dec cX8_rest 4 = some (5, [], .iload 1) := by decide +kernel
theorem eX8_rest_5 : mn_dec cX8_rest 5 = some (8, [], .invokevirtual 66) := by decide +kernel
theorem eX8_rest_8 : mn_dec cX8_rest 8 = some (11, [15], .ifCond .ne 7) := by decide +kernel
theorem eX8_rest_11 : mn_dec cX8_rest 11 = some (14, [], .ldc2_w 165) := by decide +kernel
theorem eX8_rest_14 : mn_dec cX8_rest 14 = some (15, [], .lreturn) := by decide +kernel
theorem eX8_rest_15 : mn_dec cX8_rest 15 = some (16, [], .iload 2) := by decide +kernel
theorem eX8_rest_16 : mn_dec cX8_rest 16 = some (17, [], .iconst 0) := by decide +kernel
theorem eX8_rest_17 : mn_dec cX8_rest 17 = some (18, [], .iconst 1) := by decide +kernel
theorem eX8_rest_18 : mn_dec cX8_rest 18 = some (21, [], .invokestatic 83) := by decide +kernel
theorem eX8_rest_21 : mn_dec cX8_rest 21 = some (24, [28], .ifCond .ne 7) := by decide +kernel
theorem eX8_rest_24 : mn_dec cX8_rest 24 = some (27, [], .ldc2_w 167) := by decide +kernel
theorem eX8_rest_27 : mn_dec cX8_rest 27 = some (28, [], .lreturn) := by decide +kernel
theorem eX8_rest_28 : mn_dec cX8_rest 28 = some (29, [], .aload 0) := by decide +kernel
theorem eX8_rest_29 : mn_dec cX8_rest 29 = some (32, [], .getfield 47) := by decide +kernel
theorem eX8_rest_32 : mn_dec cX8_rest 32 = some (33, [], .aload 0) := by decide +kernel
theorem eX8_rest_33 : mn_dec cX8_rest 33 = some (36, [], .getfield 10) := by decide +kernel
theorem eX8_rest_36 : mn_dec cX8_rest 36 = some (37, [], .aload 0) := by decide +kernel
theorem eX8_rest_37 : mn_dec cX8_rest 37 = some (40, [], .getfield 26) := by decide +kernel
theorem eX8_rest_40 : mn_dec cX8_rest 40 = some (43, [], .invokevirtual 194) := by decide +kernel
theorem eX8_rest_43 : mn_dec cX8_rest 43 = some (46, [50], .ifCond .ne 7) := by decide +kernel
theorem eX8_rest_46 : mn_dec cX8_rest 46 = some (49, [], .ldc2_w 173) := by decide +kernel
theorem eX8_rest_49 : mn_dec cX8_rest 49 = some (50, [], .lreturn) := by decide +kernel
theorem eX8_rest_50 : mn_dec cX8_rest 50 = some (51, [], .aload 0) := by decide +kernel
theorem eX8_rest_51 : mn_dec cX8_rest 51 = some (54, [], .getfield 47) := by decide +kernel
theorem eX8_rest_54 : mn_dec cX8_rest 54 = some (55, [], .aload 0) := by decide +kernel
theorem eX8_rest_55 : mn_dec cX8_rest 55 = some (58, [], .getfield 10) := by decide +kernel
theorem eX8_rest_58 : mn_dec cX8_rest 58 = some (61, [], .invokevirtual 197) := by decide +kernel
theorem eX8_rest_61 : mn_dec cX8_rest 61 = some (62, [], .aload 0) := by decide +kernel
theorem eX8_rest_62 : mn_dec cX8_rest 62 = some (65, [], .getfield 47) := by decide +kernel
theorem eX8_rest_65 : mn_dec cX8_rest 65 = some (66, [], .iload 1) := by decide +kernel
theorem eX8_rest_66 : mn_dec cX8_rest 66 = some (69, [], .invokevirtual 198) := by decide +kernel
theorem eX8_rest_69 : mn_dec cX8_rest 69 = some (70, [], .aload 0) := by decide +kernel
theorem eX8_rest_70 : mn_dec cX8_rest 70 = some (73, [], .getfield 47) := by decide +kernel
theorem eX8_rest_73 : mn_dec cX8_rest 73 = some (76, [], .invokevirtual 201) := by decide +kernel
theorem eX8_rest_76 : mn_dec cX8_rest 76 = some (77, [], .iload 2) := by decide +kernel
theorem eX8_rest_77 : mn_dec cX8_rest 77 = some (80, [], .invokestatic 186) := by decide +kernel
theorem eX8_rest_80 : mn_dec cX8_rest 80 = some (81, [], .lreturn) := by decide +kernel
theorem eX8_pull_0 : mn_dec cX8_pull 0 = some (1, [], .iload 1) := by decide +kernel
theorem eX8_pull_1 : mn_dec cX8_pull 1 = some (4, [], .invokestatic 58) := by decide +kernel
theorem eX8_pull_4 : mn_dec cX8_pull 4 = some (7, [10], .ifCond .ne 6) := by decide +kernel
theorem eX8_pull_7 : mn_dec cX8_pull 7 = some (9, [], .iconst (-2)) := by decide +kernel
theorem eX8_pull_9 : mn_dec cX8_pull 9 = some (10, [], .ireturn) := by decide +kernel
theorem eX8_pull_10 : mn_dec cX8_pull 10 = some (11, [], .aload 0) := by decide +kernel
theorem eX8_pull_11 : mn_dec cX8_pull 11 = some (14, [], .getfield 47) := by decide +kernel
theorem eX8_pull_14 : mn_dec cX8_pull 14 = some (15, [], .aload 0) := by decide +kernel
theorem eX8_pull_15 : mn_dec cX8_pull 15 = some (18, [], .getfield 10) := by decide +kernel
theorem eX8_pull_18 : mn_dec cX8_pull 18 = some (19, [], .aload 0) := by decide +kernel
theorem eX8_pull_19 : mn_dec cX8_pull 19 = some (22, [], .getfield 26) := by decide +kernel
theorem eX8_pull_22 : mn_dec cX8_pull 22 = some (25, [], .invokevirtual 194) := by decide +kernel
theorem eX8_pull_25 : mn_dec cX8_pull 25 = some (28, [39], .ifCond .eq 14) := by decide +kernel
theorem eX8_pull_28 : mn_dec cX8_pull 28 = some (29, [], .aload 0) := by decide +kernel
theorem eX8_pull_29 : mn_dec cX8_pull 29 = some (32, [], .getfield 10) := by decide +kernel
theorem eX8_pull_32 : mn_dec cX8_pull 32 = some (35, [], .invokevirtual 204) := by decide +kernel
theorem eX8_pull_35 : mn_dec cX8_pull 35 = some (36, [], .iconst 2) := by decide +kernel
theorem eX8_pull_36 : mn_dec cX8_pull 36 = some (39, [42], .if_icmp .ge 6) := by decide +kernel
theorem eX8_pull_39 : mn_dec cX8_pull 39 = some (41, [], .iconst (-5)) := by decide +kernel
theorem eX8_pull_41 : mn_dec cX8_pull 41 = some (42, [], .ireturn) := by decide +kernel
theorem eX8_pull_42 : mn_dec cX8_pull 42 = some (44, [], .iconst (-5)) := by decide +kernel
theorem eX8_pull_44 : mn_dec cX8_pull 44 = some (45, [], .istore 2) := by decide +kernel
theorem eX8_pull_45 : mn_dec cX8_pull 45 = some (46, [], .lconst 0) := by decide +kernel
theorem eX8_pull_46 : mn_dec cX8_pull 46 = some (47, [], .lstore 3) := by decide +kernel
theorem eX8_pull_47 : mn_dec cX8_pull 47 = some (48, [], .lconst 1) := by decide +kernel
theorem eX8_pull_48 : mn_dec cX8_pull 48 = some (50, [], .lstore 5) := by decide +kernel
theorem eX8_pull_50 : mn_dec cX8_pull 50 = some (51, [], .iconst 0) := by decide +kernel
theorem eX8_pull_51 : mn_dec cX8_pull 51 = some (53, [], .istore 7) := by decide +kernel
theorem eX8_pull_53 : mn_dec cX8_pull 53 = some (55, [], .iload 7) := by decide +kernel
theorem eX8_pull_55 : mn_dec cX8_pull 55 = some (56, [], .aload 0) := by decide +kernel
theorem eX8_pull_56 : mn_dec cX8_pull 56 = some (59, [], .getfield 10) := by decide +kernel
theorem eX8_pull_59 : mn_dec cX8_pull 59 = some (62, [], .invokevirtual 124) := by decide +kernel
theorem eX8_pull_62 : mn_dec cX8_pull 62 = some (65, [145], .if_icmp .ge 83) := by decide +kernel
theorem eX8_pull_65 : mn_dec cX8_pull 65 = some (66, [], .aload 0) := by decide +kernel
theorem eX8_pull_66 : mn_dec cX8_pull 66 = some (69, [], .getfield 10) := by decide +kernel
theorem eX8_pull_69 : mn_dec cX8_pull 69 = some (71, [], .iload 7) := by decide +kernel
theorem eX8_pull_71 : mn_dec cX8_pull 71 = some (74, [], .invokevirtual 76) := by decide +kernel
theorem eX8_pull_74 : mn_dec cX8_pull 74 = some (77, [80], .ifCond .eq 6) := by decide +kernel
theorem eX8_pull_77 : mn_dec cX8_pull 77 = some (80, [139], .goto 62) := by decide +kernel
theorem eX8_pull_80 : mn_dec cX8_pull 80 = some (81, [], .aload 0) := by decide +kernel
theorem eX8_pull_81 : mn_dec cX8_pull 81 = some (83, [], .iload 7) := by decide +kernel
theorem eX8_pull_83 : mn_dec cX8_pull 83 = some (84, [], .iload 1) := by decide +kernel
theorem eX8_pull_84 : mn_dec cX8_pull 84 = some (87, [], .invokevirtual 207) := by decide +kernel
theorem eX8_pull_87 : mn_dec cX8_pull 87 = some (88, [], .aload 0) := by decide +kernel
theorem eX8_pull_88 : mn_dec cX8_pull 88 = some (91, [], .getfield 47) := by decide +kernel
theorem eX8_pull_91 : mn_dec cX8_pull 91 = some (92, [], .aload 0) := by decide +kernel
theorem eX8_pull_92 : mn_dec cX8_pull 92 = some (95, [], .getfield 10) := by decide +kernel
theorem eX8_pull_95 : mn_dec cX8_pull 95 = some (98, [], .invokevirtual 210) := by decide +kernel
theorem eX8_pull_98 : mn_dec cX8_pull 98 = some (100, [], .lstore 8) := by decide +kernel
theorem eX8_pull_100 : mn_dec cX8_pull 100 = some (101, [], .iload 2) := by decide +kernel
theorem eX8_pull_101 : mn_dec cX8_pull 101 = some (103, [], .iconst (-5)) := by decide +kernel
theorem eX8_pull_103 : mn_dec cX8_pull 103 = some (106, [124], .if_icmp .eq 21) := by decide +kernel
theorem eX8_pull_106 : mn_dec cX8_pull 106 = some (108, [], .lload 8) := by decide +kernel
theorem eX8_pull_108 : mn_dec cX8_pull 108 = some (109, [], .aload 0) := by decide +kernel
theorem eX8_pull_109 : mn_dec cX8_pull 109 = some (112, [], .getfield 47) := by decide +kernel
theorem eX8_pull_112 : mn_dec cX8_pull 112 = some (115, [], .invokevirtual 201) := by decide +kernel
theorem eX8_pull_115 : mn_dec cX8_pull 115 = some (116, [], .lload 3) := by decide +kernel
theorem eX8_pull_116 : mn_dec cX8_pull 116 = some (118, [], .lload 5) := by decide +kernel
theorem eX8_pull_118 : mn_dec cX8_pull 118 = some (121, [], .invokestatic 213) := by decide +kernel
theorem eX8_pull_121 : mn_dec cX8_pull 121 = some (124, [139], .ifCond .le 18) := by decide +kernel
theorem eX8_pull_124 : mn_dec cX8_pull 124 = some (126, [], .iload 7) := by decide +kernel
theorem eX8_pull_126 : mn_dec cX8_pull 126 = some (127, [], .istore 2) := by decide +kernel
theorem eX8_pull_127 : mn_dec cX8_pull 127 = some (129, [], .lload 8) := by decide +kernel
theorem eX8_pull_129 : mn_dec cX8_pull 129 = some (130, [], .lstore 3) := by decide +kernel
theorem eX8_pull_130 : mn_dec cX8_pull 130 = some (131, [], .aload 0) := by decide +kernel
theorem eX8_pull_131 : mn_dec cX8_pull 131 = some (134, [], .getfield 47) := by decide +kernel
theorem eX8_pull_134 : mn_dec cX8_pull 134 = some (137, [], .invokevirtual 201) := by decide +kernel
theorem eX8_pull_137 : mn_dec cX8_pull 137 = some (139, [], .lstore 5) := by decide +kernel
theorem eX8_pull_139 : mn_dec cX8_pull 139 = some (142, [], .iinc 7 1) := by decide +kernel
theorem eX8_pull_142 : mn_dec cX8_pull 142 = some (145, [53], .goto (-89)) := by decide +kernel
theorem eX8_pull_145 : mn_dec cX8_pull 145 = some (146, [], .iload 2) := by decide +kernel
theorem eX8_pull_146 : mn_dec cX8_pull 146 = some (147, [], .ireturn) := by decide +kernel
theorem eX8_talk_0 : mn_dec cX8_talk 0 = some (1, [], .aload 0) := by decide +kernel
theorem eX8_talk_1 : mn_dec cX8_talk 1 = some (4, [], .getfield 10) := by decide +kernel
theorem eX8_talk_4 : mn_dec cX8_talk 4 = some (5, [], .iload 1) := by decide +kernel
theorem eX8_talk_5 : mn_dec cX8_talk 5 = some (8, [], .invokevirtual 66) := by decide +kernel
theorem eX8_talk_8 : mn_dec cX8_talk 8 = some (11, [27], .ifCond .eq 19) := by decide +kernel
theorem eX8_talk_11 : mn_dec cX8_talk 11 = some (12, [], .aload 0) := by decide +kernel
theorem eX8_talk_12 : mn_dec cX8_talk 12 = some (15, [], .getfield 10) := by decide +kernel
theorem eX8_talk_15 : mn_dec cX8_talk 15 = some (16, [], .iload 2) := by decide +kernel
theorem eX8_talk_16 : mn_dec cX8_talk 16 = some (19, [], .invokevirtual 66) := by decide +kernel
theorem eX8_talk_19 : mn_dec cX8_talk 19 = some (22, [27], .ifCond .eq 8) := by decide +kernel
theorem eX8_talk_22 : mn_dec cX8_talk 22 = some (23, [], .iload 1) := by decide +kernel
theorem eX8_talk_23 : mn_dec cX8_talk 23 = some (24, [], .iload 2) := by decide +kernel
theorem eX8_talk_24 : mn_dec cX8_talk 24 = some (27, [29], .if_icmp .ne 5) := by decide +kernel
theorem eX8_talk_27 : mn_dec cX8_talk 27 = some (28, [], .iconst (-1)) := by decide +kernel
theorem eX8_talk_28 : mn_dec cX8_talk 28 = some (29, [], .ireturn) := by decide +kernel
theorem eX8_talk_29 : mn_dec cX8_talk 29 = some (30, [], .aload 0) := by decide +kernel
theorem eX8_talk_30 : mn_dec cX8_talk 30 = some (33, [], .getfield 10) := by decide +kernel
theorem eX8_talk_33 : mn_dec cX8_talk 33 = some (34, [], .iload 1) := by decide +kernel
theorem eX8_talk_34 : mn_dec cX8_talk 34 = some (37, [], .invokevirtual 69) := by decide +kernel
theorem eX8_talk_37 : mn_dec cX8_talk 37 = some (38, [], .istore 3) := by decide +kernel
theorem eX8_talk_38 : mn_dec cX8_talk 38 = some (39, [], .aload 0) := by decide +kernel
theorem eX8_talk_39 : mn_dec cX8_talk 39 = some (42, [], .getfield 10) := by decide +kernel
theorem eX8_talk_42 : mn_dec cX8_talk 42 = some (43, [], .iload 2) := by decide +kernel
theorem eX8_talk_43 : mn_dec cX8_talk 43 = some (46, [], .invokevirtual 69) := by decide +kernel
theorem eX8_talk_46 : mn_dec cX8_talk 46 = some (48, [], .istore 4) := by decide +kernel
theorem eX8_talk_48 : mn_dec cX8_talk 48 = some (49, [], .iload 3) := by decide +kernel
theorem eX8_talk_49 : mn_dec cX8_talk 49 = some (51, [], .iload 4) := by decide +kernel
theorem eX8_talk_51 : mn_dec cX8_talk 51 = some (52, [], .iadd) := by decide +kernel
theorem eX8_talk_52 : mn_dec cX8_talk 52 = some (54, [], .istore 5) := by decide +kernel
theorem eX8_talk_54 : mn_dec cX8_talk 54 = some (55, [], .iload 3) := by decide +kernel
theorem eX8_talk_55 : mn_dec cX8_talk 55 = some (57, [], .iload 4) := by decide +kernel
theorem eX8_talk_57 : mn_dec cX8_talk 57 = some (60, [64], .if_icmp .gt 7) := by decide +kernel
theorem eX8_talk_60 : mn_dec cX8_talk 60 = some (61, [], .iconst 1) := by decide +kernel
theorem eX8_talk_61 : mn_dec cX8_talk 61 = some (64, [65], .goto 4) := by decide +kernel
theorem eX8_talk_64 : mn_dec cX8_talk 64 = some (65, [], .iconst 0) := by decide +kernel
theorem eX8_talk_65 : mn_dec cX8_talk 65 = some (67, [], .istore 6) := by decide +kernel
theorem eX8_talk_67 : mn_dec cX8_talk 67 = some (68, [], .aload 0) := by decide +kernel
theorem eX8_talk_68 : mn_dec cX8_talk 68 = some (71, [], .getfield 10) := by decide +kernel
theorem eX8_talk_71 : mn_dec cX8_talk 71 = some (72, [], .iload 1) := by decide +kernel
theorem eX8_talk_72 : mn_dec cX8_talk 72 = some (74, [], .iload 6) := by decide +kernel
theorem eX8_talk_74 : mn_dec cX8_talk 74 = some (77, [84], .ifCond .eq 10) := by decide +kernel
theorem eX8_talk_77 : mn_dec cX8_talk 77 = some (79, [], .iload 5) := by decide +kernel
theorem eX8_talk_79 : mn_dec cX8_talk 79 = some (80, [], .iconst 2) := by decide +kernel
theorem eX8_talk_80 : mn_dec cX8_talk 80 = some (81, [], .idiv) := by decide +kernel
theorem eX8_talk_81 : mn_dec cX8_talk 81 = some (84, [91], .goto 10) := by decide +kernel
theorem eX8_talk_84 : mn_dec cX8_talk 84 = some (86, [], .iload 5) := by decide +kernel
theorem eX8_talk_86 : mn_dec cX8_talk 86 = some (88, [], .iload 5) := by decide +kernel
theorem eX8_talk_88 : mn_dec cX8_talk 88 = some (89, [], .iconst 2) := by decide +kernel
theorem eX8_talk_89 : mn_dec cX8_talk 89 = some (90, [], .idiv) := by decide +kernel
theorem eX8_talk_90 : mn_dec cX8_talk 90 = some (91, [], .isub) := by decide +kernel
theorem eX8_talk_91 : mn_dec cX8_talk 91 = some (94, [], .invokevirtual 72) := by decide +kernel
theorem eX8_talk_94 : mn_dec cX8_talk 94 = some (95, [], .aload 0) := by decide +kernel
theorem eX8_talk_95 : mn_dec cX8_talk 95 = some (98, [], .getfield 10) := by decide +kernel
theorem eX8_talk_98 : mn_dec cX8_talk 98 = some (99, [], .iload 2) := by decide +kernel
theorem eX8_talk_99 : mn_dec cX8_talk 99 = some (101, [], .iload 6) := by decide +kernel
theorem eX8_talk_101 : mn_dec cX8_talk 101 = some (104, [114], .ifCond .eq 13) := by decide +kernel
theorem eX8_talk_104 : mn_dec cX8_talk 104 = some (106, [], .iload 5) := by decide +kernel
theorem eX8_talk_106 : mn_dec cX8_talk 106 = some (108, [], .iload 5) := by decide +kernel
theorem eX8_talk_108 : mn_dec cX8_talk 108 = some (109, [], .iconst 2) := by decide +kernel
theorem eX8_talk_109 : mn_dec cX8_talk 109 = some (110, [], .idiv) := by decide +kernel
theorem eX8_talk_110 : mn_dec cX8_talk 110 = some (111, [], .isub) := by decide +kernel
theorem eX8_talk_111 : mn_dec cX8_talk 111 = some (114, [118], .goto 7) := by decide +kernel
theorem eX8_talk_114 : mn_dec cX8_talk 114 = some (116, [], .iload 5) := by decide +kernel
theorem eX8_talk_116 : mn_dec cX8_talk 116 = some (117, [], .iconst 2) := by decide +kernel
theorem eX8_talk_117 : mn_dec cX8_talk 117 = some (118, [], .idiv) := by decide +kernel
theorem eX8_talk_118 : mn_dec cX8_talk 118 = some (121, [], .invokevirtual 72) := by decide +kernel
theorem eX8_talk_121 : mn_dec cX8_talk 121 = some (122, [], .iload 3) := by decide +kernel
theorem eX8_talk_122 : mn_dec cX8_talk 122 = some (124, [], .iload 4) := by decide +kernel
theorem eX8_talk_124 : mn_dec cX8_talk 124 = some (125, [], .isub) := by decide +kernel
theorem eX8_talk_125 : mn_dec cX8_talk 125 = some (128, [], .invokestatic 217) := by decide +kernel
theorem eX8_talk_128 : mn_dec cX8_talk 128 = some (129, [], .ireturn) := by decide +kernel
theorem eX8_fewest_0 : mn_dec cX8_fewest 0 = some (1, [], .iload 1) := by decide +kernel
theorem eX8_fewest_1 : mn_dec cX8_fewest 1 = some (2, [], .iconst 2) := by decide +kernel
theorem eX8_fewest_2 : mn_dec cX8_fewest 2 = some (3, [], .iconst 4) := by decide +kernel
theorem eX8_fewest_3 : mn_dec cX8_fewest 3 = some (6, [], .invokestatic 83) := by decide +kernel
theorem eX8_fewest_6 : mn_dec cX8_fewest 6 = some (9, [16], .ifCond .eq 10) := by decide +kernel
theorem eX8_fewest_9 : mn_dec cX8_fewest 9 = some (10, [], .iload 2) := by decide +kernel
theorem eX8_fewest_10 : mn_dec cX8_fewest 10 = some (13, [], .invokestatic 58) := by decide +kernel
theorem eX8_fewest_13 : mn_dec cX8_fewest 13 = some (16, [19], .ifCond .ne 6) := by decide +kernel
theorem eX8_fewest_16 : mn_dec cX8_fewest 16 = some (18, [], .iconst (-2)) := by decide +kernel
theorem eX8_fewest_18 : mn_dec cX8_fewest 18 = some (19, [], .ireturn) := by decide +kernel
theorem eX8_fewest_19 : mn_dec cX8_fewest 19 = some (20, [], .aload 0) := by decide +kernel
theorem eX8_fewest_20 : mn_dec cX8_fewest 20 = some (23, [], .getfield 10) := by decide +kernel
theorem eX8_fewest_23 : mn_dec cX8_fewest 23 = some (26, [], .invokevirtual 124) := by decide +kernel
theorem eX8_fewest_26 : mn_dec cX8_fewest 26 = some (27, [], .iload 1) := by decide +kernel
theorem eX8_fewest_27 : mn_dec cX8_fewest 27 = some (30, [32], .if_icmp .ge 5) := by decide +kernel
theorem eX8_fewest_30 : mn_dec cX8_fewest 30 = some (31, [], .iconst (-1)) := by decide +kernel
theorem eX8_fewest_31 : mn_dec cX8_fewest 31 = some (32, [], .ireturn) := by decide +kernel
theorem eX8_fewest_32 : mn_dec cX8_fewest 32 = some (33, [], .aload 0) := by decide +kernel
theorem eX8_fewest_33 : mn_dec cX8_fewest 33 = some (36, [], .getfield 54) := by decide +kernel
theorem eX8_fewest_36 : mn_dec cX8_fewest 36 = some (37, [], .aload 0) := by decide +kernel
theorem eX8_fewest_37 : mn_dec cX8_fewest 37 = some (40, [], .getfield 10) := by decide +kernel
theorem eX8_fewest_40 : mn_dec cX8_fewest 40 = some (41, [], .iload 1) := by decide +kernel
theorem eX8_fewest_41 : mn_dec cX8_fewest 41 = some (42, [], .iload 2) := by decide +kernel
theorem eX8_fewest_42 : mn_dec cX8_fewest 42 = some (45, [], .invokevirtual 222) := by decide +kernel
theorem eX8_fewest_45 : mn_dec cX8_fewest 45 = some (46, [], .ireturn) := by decide +kernel
theorem eX8_found_0 : mn_dec cX8_found 0 = some (1, [], .aload 0) := by decide +kernel
theorem eX8_found_1 : mn_dec cX8_found 1 = some (4, [], .getfield 54) := by decide +kernel
theorem eX8_found_4 : mn_dec cX8_found 4 = some (7, [], .invokevirtual 226) := by decide +kernel
theorem eX8_found_7 : mn_dec cX8_found 7 = some (8, [], .ireturn) := by decide +kernel
theorem eX8_isFrom_0 : mn_dec cX8_isFrom 0 = some (1, [], .iload 0) := by decide +kernel
theorem eX8_isFrom_1 : mn_dec cX8_isFrom 1 = some (2, [], .iload 1) := by decide +kernel
theorem eX8_isFrom_2 : mn_dec cX8_isFrom 2 = some (5, [14], .if_icmp .lt 12) := by decide +kernel
theorem eX8_isFrom_5 : mn_dec cX8_isFrom 5 = some (6, [], .iload 0) := by decide +kernel
theorem eX8_isFrom_6 : mn_dec cX8_isFrom 6 = some (7, [], .iload 2) := by decide +kernel
theorem eX8_isFrom_7 : mn_dec cX8_isFrom 7 = some (10, [14], .if_icmp .gt 7) := by decide +kernel
theorem eX8_isFrom_10 : mn_dec cX8_isFrom 10 = some (11, [], .iconst 1) := by decide +kernel
theorem eX8_isFrom_11 : mn_dec cX8_isFrom 11 = some (14, [15], .goto 4) := by decide +kernel
theorem eX8_isFrom_14 : mn_dec cX8_isFrom 14 = some (15, [], .iconst 0) := by decide +kernel
theorem eX8_isFrom_15 : mn_dec cX8_isFrom 15 = some (16, [], .ireturn) := by decide +kernel
theorem eX8_isThought_0 : mn_dec cX8_isThought 0 = some (1, [], .iload 0) := by decide +kernel
theorem eX8_isThought_1 : mn_dec cX8_isThought 1 = some (2, [], .iconst 0) := by decide +kernel
theorem eX8_isThought_2 : mn_dec cX8_isThought 2 = some (5, [], .iconst 1000) := by decide +kernel
theorem eX8_isThought_5 : mn_dec cX8_isThought 5 = some (8, [], .invokestatic 83) := by decide +kernel
theorem eX8_isThought_8 : mn_dec cX8_isThought 8 = some (9, [], .ireturn) := by decide +kernel
theorem eX8_countGroups_0 : mn_dec cX8_countGroups 0 = some (1, [], .aload 0) := by decide +kernel
theorem eX8_countGroups_1 : mn_dec cX8_countGroups 1 = some (4, [], .getfield 26) := by decide +kernel
theorem eX8_countGroups_4 : mn_dec cX8_countGroups 4 = some (5, [], .aload 0) := by decide +kernel
theorem eX8_countGroups_5 : mn_dec cX8_countGroups 5 = some (8, [], .getfield 10) := by decide +kernel
theorem eX8_countGroups_8 : mn_dec cX8_countGroups 8 = some (11, [], .invokevirtual 114) := by decide +kernel
theorem eX8_countGroups_11 : mn_dec cX8_countGroups 11 = some (12, [], .aload 0) := by decide +kernel
theorem eX8_countGroups_12 : mn_dec cX8_countGroups 12 = some (15, [], .getfield 26) := by decide +kernel
theorem eX8_countGroups_15 : mn_dec cX8_countGroups 15 = some (16, [], .aload 0) := by decide +kernel
theorem eX8_countGroups_16 : mn_dec cX8_countGroups 16 = some (19, [], .getfield 10) := by decide +kernel
theorem eX8_countGroups_19 : mn_dec cX8_countGroups 19 = some (22, [], .invokevirtual 124) := by decide +kernel
theorem eX8_countGroups_22 : mn_dec cX8_countGroups 22 = some (25, [], .invokevirtual 121) := by decide +kernel
theorem eX8_countGroups_25 : mn_dec cX8_countGroups 25 = some (26, [], .ireturn) := by decide +kernel
theorem eX8_workAsIfHeld_0 : mn_dec cX8_workAsIfHeld 0 = some (1, [], .aload 0) := by decide +kernel
theorem eX8_workAsIfHeld_1 : mn_dec cX8_workAsIfHeld 1 = some (4, [], .getfield 10) := by decide +kernel
theorem eX8_workAsIfHeld_4 : mn_dec cX8_workAsIfHeld 4 = some (5, [], .iload 1) := by decide +kernel
theorem eX8_workAsIfHeld_5 : mn_dec cX8_workAsIfHeld 5 = some (8, [], .invokevirtual 69) := by decide +kernel
theorem eX8_workAsIfHeld_8 : mn_dec cX8_workAsIfHeld 8 = some (9, [], .istore 3) := by decide +kernel
theorem eX8_workAsIfHeld_9 : mn_dec cX8_workAsIfHeld 9 = some (10, [], .aload 0) := by decide +kernel
theorem eX8_workAsIfHeld_10 : mn_dec cX8_workAsIfHeld 10 = some (13, [], .getfield 10) := by decide +kernel
theorem eX8_workAsIfHeld_13 : mn_dec cX8_workAsIfHeld 13 = some (14, [], .iload 1) := by decide +kernel
theorem eX8_workAsIfHeld_14 : mn_dec cX8_workAsIfHeld 14 = some (15, [], .iload 2) := by decide +kernel
theorem eX8_workAsIfHeld_15 : mn_dec cX8_workAsIfHeld 15 = some (18, [], .invokevirtual 72) := by decide +kernel
theorem eX8_workAsIfHeld_18 : mn_dec cX8_workAsIfHeld 18 = some (19, [], .aload 0) := by decide +kernel
theorem eX8_workAsIfHeld_19 : mn_dec cX8_workAsIfHeld 19 = some (22, [], .getfield 10) := by decide +kernel
theorem eX8_workAsIfHeld_22 : mn_dec cX8_workAsIfHeld 22 = some (23, [], .iload 1) := by decide +kernel
theorem eX8_workAsIfHeld_23 : mn_dec cX8_workAsIfHeld 23 = some (24, [], .iconst 1) := by decide +kernel
theorem eX8_workAsIfHeld_24 : mn_dec cX8_workAsIfHeld 24 = some (27, [], .invokevirtual 79) := by decide +kernel
theorem eX8_workAsIfHeld_27 : mn_dec cX8_workAsIfHeld 27 = some (28, [], .aload 0) := by decide +kernel
theorem eX8_workAsIfHeld_28 : mn_dec cX8_workAsIfHeld 28 = some (31, [], .getfield 47) := by decide +kernel
theorem eX8_workAsIfHeld_31 : mn_dec cX8_workAsIfHeld 31 = some (32, [], .aload 0) := by decide +kernel
theorem eX8_workAsIfHeld_32 : mn_dec cX8_workAsIfHeld 32 = some (35, [], .getfield 10) := by decide +kernel
theorem eX8_workAsIfHeld_35 : mn_dec cX8_workAsIfHeld 35 = some (38, [], .invokevirtual 197) := by decide +kernel
theorem eX8_workAsIfHeld_38 : mn_dec cX8_workAsIfHeld 38 = some (39, [], .aload 0) := by decide +kernel
theorem eX8_workAsIfHeld_39 : mn_dec cX8_workAsIfHeld 39 = some (42, [], .getfield 10) := by decide +kernel
theorem eX8_workAsIfHeld_42 : mn_dec cX8_workAsIfHeld 42 = some (43, [], .iload 1) := by decide +kernel
theorem eX8_workAsIfHeld_43 : mn_dec cX8_workAsIfHeld 43 = some (44, [], .iconst 0) := by decide +kernel
theorem eX8_workAsIfHeld_44 : mn_dec cX8_workAsIfHeld 44 = some (47, [], .invokevirtual 79) := by decide +kernel
theorem eX8_workAsIfHeld_47 : mn_dec cX8_workAsIfHeld 47 = some (48, [], .aload 0) := by decide +kernel
theorem eX8_workAsIfHeld_48 : mn_dec cX8_workAsIfHeld 48 = some (51, [], .getfield 10) := by decide +kernel
theorem eX8_workAsIfHeld_51 : mn_dec cX8_workAsIfHeld 51 = some (52, [], .iload 1) := by decide +kernel
theorem eX8_workAsIfHeld_52 : mn_dec cX8_workAsIfHeld 52 = some (53, [], .iload 3) := by decide +kernel
theorem eX8_workAsIfHeld_53 : mn_dec cX8_workAsIfHeld 53 = some (56, [], .invokevirtual 72) := by decide +kernel
theorem eX8_workAsIfHeld_56 : mn_dec cX8_workAsIfHeld 56 = some (57, [], .return_) := by decide +kernel
theorem eX8_partOf_0 : mn_dec cX8_partOf 0 = some (1, [], .lload 0) := by decide +kernel
theorem eX8_partOf_1 : mn_dec cX8_partOf 1 = some (2, [], .lload 2) := by decide +kernel
theorem eX8_partOf_2 : mn_dec cX8_partOf 2 = some (5, [], .invokestatic 229) := by decide +kernel
theorem eX8_partOf_5 : mn_dec cX8_partOf 5 = some (7, [], .lstore 5) := by decide +kernel
theorem eX8_partOf_7 : mn_dec cX8_partOf 7 = some (9, [], .iload 4) := by decide +kernel
theorem eX8_partOf_9 : mn_dec cX8_partOf 9 = some (12, [16], .ifCond .ne 7) := by decide +kernel
theorem eX8_partOf_12 : mn_dec cX8_partOf 12 = some (13, [], .lload 0) := by decide +kernel
theorem eX8_partOf_13 : mn_dec cX8_partOf 13 = some (16, [17], .goto 4) := by decide +kernel
theorem eX8_partOf_16 : mn_dec cX8_partOf 16 = some (17, [], .lload 2) := by decide +kernel
theorem eX8_partOf_17 : mn_dec cX8_partOf 17 = some (19, [], .lstore 7) := by decide +kernel
theorem eX8_partOf_19 : mn_dec cX8_partOf 19 = some (21, [], .lload 5) := by decide +kernel
theorem eX8_partOf_21 : mn_dec cX8_partOf 21 = some (22, [], .lconst 0) := by decide +kernel
theorem eX8_partOf_22 : mn_dec cX8_partOf 22 = some (23, [], .lcmp) := by decide +kernel
theorem eX8_partOf_23 : mn_dec cX8_partOf 23 = some (26, [31], .ifCond .ne 8) := by decide +kernel
theorem eX8_partOf_26 : mn_dec cX8_partOf 26 = some (28, [], .lload 7) := by decide +kernel
theorem eX8_partOf_28 : mn_dec cX8_partOf 28 = some (31, [36], .goto 8) := by decide +kernel
theorem eX8_partOf_31 : mn_dec cX8_partOf 31 = some (33, [], .lload 7) := by decide +kernel
theorem eX8_partOf_33 : mn_dec cX8_partOf 33 = some (35, [], .lload 5) := by decide +kernel
theorem eX8_partOf_35 : mn_dec cX8_partOf 35 = some (36, [], .ldiv) := by decide +kernel
theorem eX8_partOf_36 : mn_dec cX8_partOf 36 = some (37, [], .lreturn) := by decide +kernel
theorem eX8_commonDivisor_0 : mn_dec cX8_commonDivisor 0 = some (1, [], .lload 0) := by decide +kernel
theorem eX8_commonDivisor_1 : mn_dec cX8_commonDivisor 1 = some (3, [], .lstore 4) := by decide +kernel
theorem eX8_commonDivisor_3 : mn_dec cX8_commonDivisor 3 = some (4, [], .lload 2) := by decide +kernel
theorem eX8_commonDivisor_4 : mn_dec cX8_commonDivisor 4 = some (6, [], .lstore 6) := by decide +kernel
theorem eX8_commonDivisor_6 : mn_dec cX8_commonDivisor 6 = some (7, [], .iconst 0) := by decide +kernel
theorem eX8_commonDivisor_7 : mn_dec cX8_commonDivisor 7 = some (9, [], .istore 8) := by decide +kernel
theorem eX8_commonDivisor_9 : mn_dec cX8_commonDivisor 9 = some (11, [], .iload 8) := by decide +kernel
theorem eX8_commonDivisor_11 : mn_dec cX8_commonDivisor 11 = some (14, [], .iconst 200) := by decide +kernel
theorem eX8_commonDivisor_14 : mn_dec cX8_commonDivisor 14 = some (17, [45], .if_icmp .ge 31) := by decide +kernel
theorem eX8_commonDivisor_17 : mn_dec cX8_commonDivisor 17 = some (19, [], .lload 6) := by decide +kernel
theorem eX8_commonDivisor_19 : mn_dec cX8_commonDivisor 19 = some (20, [], .lconst 0) := by decide +kernel
theorem eX8_commonDivisor_20 : mn_dec cX8_commonDivisor 20 = some (21, [], .lcmp) := by decide +kernel
theorem eX8_commonDivisor_21 : mn_dec cX8_commonDivisor 21 = some (24, [45], .ifCond .eq 24) := by decide +kernel
theorem eX8_commonDivisor_24 : mn_dec cX8_commonDivisor 24 = some (26, [], .lload 4) := by decide +kernel
theorem eX8_commonDivisor_26 : mn_dec cX8_commonDivisor 26 = some (28, [], .lload 6) := by decide +kernel
theorem eX8_commonDivisor_28 : mn_dec cX8_commonDivisor 28 = some (29, [], .lrem) := by decide +kernel
theorem eX8_commonDivisor_29 : mn_dec cX8_commonDivisor 29 = some (31, [], .lstore 9) := by decide +kernel
theorem eX8_commonDivisor_31 : mn_dec cX8_commonDivisor 31 = some (33, [], .lload 6) := by decide +kernel
theorem eX8_commonDivisor_33 : mn_dec cX8_commonDivisor 33 = some (35, [], .lstore 4) := by decide +kernel
theorem eX8_commonDivisor_35 : mn_dec cX8_commonDivisor 35 = some (37, [], .lload 9) := by decide +kernel
theorem eX8_commonDivisor_37 : mn_dec cX8_commonDivisor 37 = some (39, [], .lstore 6) := by decide +kernel
theorem eX8_commonDivisor_39 : mn_dec cX8_commonDivisor 39 = some (42, [], .iinc 8 1) := by decide +kernel
theorem eX8_commonDivisor_42 : mn_dec cX8_commonDivisor 42 = some (45, [9], .goto (-33)) := by decide +kernel
theorem eX8_commonDivisor_45 : mn_dec cX8_commonDivisor 45 = some (47, [], .lload 4) := by decide +kernel
theorem eX8_commonDivisor_47 : mn_dec cX8_commonDivisor 47 = some (48, [], .lreturn) := by decide +kernel
theorem eX8_compareFractions_0 : mn_dec cX8_compareFractions 0 = some (1, [], .lload 0) := by decide +kernel
theorem eX8_compareFractions_1 : mn_dec cX8_compareFractions 1 = some (3, [], .lstore 8) := by decide +kernel
theorem eX8_compareFractions_3 : mn_dec cX8_compareFractions 3 = some (4, [], .lload 2) := by decide +kernel
theorem eX8_compareFractions_4 : mn_dec cX8_compareFractions 4 = some (6, [], .lstore 10) := by decide +kernel
theorem eX8_compareFractions_6 : mn_dec cX8_compareFractions 6 = some (8, [], .lload 4) := by decide +kernel
theorem eX8_compareFractions_8 : mn_dec cX8_compareFractions 8 = some (10, [], .lstore 12) := by decide +kernel
theorem eX8_compareFractions_10 : mn_dec cX8_compareFractions 10 = some (12, [], .lload 6) := by decide +kernel
theorem eX8_compareFractions_12 : mn_dec cX8_compareFractions 12 = some (14, [], .lstore 14) := by decide +kernel
theorem eX8_compareFractions_14 : mn_dec cX8_compareFractions 14 = some (15, [], .iconst 0) := by decide +kernel
theorem eX8_compareFractions_15 : mn_dec cX8_compareFractions 15 = some (17, [], .istore 16) := by decide +kernel
theorem eX8_compareFractions_17 : mn_dec cX8_compareFractions 17 = some (19, [], .iload 16) := by decide +kernel
theorem eX8_compareFractions_19 : mn_dec cX8_compareFractions 19 = some (22, [], .iconst 200) := by decide +kernel
theorem eX8_compareFractions_22 : mn_dec cX8_compareFractions 22 = some (25, [127], .if_icmp .ge 105) := by decide +kernel
theorem eX8_compareFractions_25 : mn_dec cX8_compareFractions 25 = some (27, [], .lload 10) := by decide +kernel
theorem eX8_compareFractions_27 : mn_dec cX8_compareFractions 27 = some (28, [], .lconst 0) := by decide +kernel
theorem eX8_compareFractions_28 : mn_dec cX8_compareFractions 28 = some (29, [], .lcmp) := by decide +kernel
theorem eX8_compareFractions_29 : mn_dec cX8_compareFractions 29 = some (32, [127], .ifCond .eq 98) := by decide +kernel
theorem eX8_compareFractions_32 : mn_dec cX8_compareFractions 32 = some (34, [], .lload 14) := by decide +kernel
theorem eX8_compareFractions_34 : mn_dec cX8_compareFractions 34 = some (35, [], .lconst 0) := by decide +kernel
theorem eX8_compareFractions_35 : mn_dec cX8_compareFractions 35 = some (36, [], .lcmp) := by decide +kernel
theorem eX8_compareFractions_36 : mn_dec cX8_compareFractions 36 = some (39, [127], .ifCond .eq 91) := by decide +kernel
theorem eX8_compareFractions_39 : mn_dec cX8_compareFractions 39 = some (41, [], .lload 8) := by decide +kernel
theorem eX8_compareFractions_41 : mn_dec cX8_compareFractions 41 = some (43, [], .lload 10) := by decide +kernel
theorem eX8_compareFractions_43 : mn_dec cX8_compareFractions 43 = some (44, [], .ldiv) := by decide +kernel
theorem eX8_compareFractions_44 : mn_dec cX8_compareFractions 44 = some (46, [], .lstore 17) := by decide +kernel
theorem eX8_compareFractions_46 : mn_dec cX8_compareFractions 46 = some (48, [], .lload 12) := by decide +kernel
theorem eX8_compareFractions_48 : mn_dec cX8_compareFractions 48 = some (50, [], .lload 14) := by decide +kernel
theorem eX8_compareFractions_50 : mn_dec cX8_compareFractions 50 = some (51, [], .ldiv) := by decide +kernel
theorem eX8_compareFractions_51 : mn_dec cX8_compareFractions 51 = some (53, [], .lstore 19) := by decide +kernel
theorem eX8_compareFractions_53 : mn_dec cX8_compareFractions 53 = some (55, [], .lload 17) := by decide +kernel
theorem eX8_compareFractions_55 : mn_dec cX8_compareFractions 55 = some (57, [], .lload 19) := by decide +kernel
theorem eX8_compareFractions_57 : mn_dec cX8_compareFractions 57 = some (58, [], .lcmp) := by decide +kernel
theorem eX8_compareFractions_58 : mn_dec cX8_compareFractions 58 = some (61, [69], .ifCond .eq 11) := by decide +kernel
theorem eX8_compareFractions_61 : mn_dec cX8_compareFractions 61 = some (63, [], .lload 17) := by decide +kernel
theorem eX8_compareFractions_63 : mn_dec cX8_compareFractions 63 = some (65, [], .lload 19) := by decide +kernel
theorem eX8_compareFractions_65 : mn_dec cX8_compareFractions 65 = some (68, [], .invokestatic 233) := by decide +kernel
theorem eX8_compareFractions_68 : mn_dec cX8_compareFractions 68 = some (69, [], .ireturn) := by decide +kernel
theorem eX8_compareFractions_69 : mn_dec cX8_compareFractions 69 = some (71, [], .lload 8) := by decide +kernel
theorem eX8_compareFractions_71 : mn_dec cX8_compareFractions 71 = some (73, [], .lload 10) := by decide +kernel
theorem eX8_compareFractions_73 : mn_dec cX8_compareFractions 73 = some (74, [], .lrem) := by decide +kernel
theorem eX8_compareFractions_74 : mn_dec cX8_compareFractions 74 = some (76, [], .lstore 21) := by decide +kernel
theorem eX8_compareFractions_76 : mn_dec cX8_compareFractions 76 = some (78, [], .lload 12) := by decide +kernel
theorem eX8_compareFractions_78 : mn_dec cX8_compareFractions 78 = some (80, [], .lload 14) := by decide +kernel
theorem eX8_compareFractions_80 : mn_dec cX8_compareFractions 80 = some (81, [], .lrem) := by decide +kernel
theorem eX8_compareFractions_81 : mn_dec cX8_compareFractions 81 = some (83, [], .lstore 23) := by decide +kernel
theorem eX8_compareFractions_83 : mn_dec cX8_compareFractions 83 = some (85, [], .lload 21) := by decide +kernel
theorem eX8_compareFractions_85 : mn_dec cX8_compareFractions 85 = some (86, [], .lconst 0) := by decide +kernel
theorem eX8_compareFractions_86 : mn_dec cX8_compareFractions 86 = some (87, [], .lcmp) := by decide +kernel
theorem eX8_compareFractions_87 : mn_dec cX8_compareFractions 87 = some (90, [97], .ifCond .eq 10) := by decide +kernel
theorem eX8_compareFractions_90 : mn_dec cX8_compareFractions 90 = some (92, [], .lload 23) := by decide +kernel
theorem eX8_compareFractions_92 : mn_dec cX8_compareFractions 92 = some (93, [], .lconst 0) := by decide +kernel
theorem eX8_compareFractions_93 : mn_dec cX8_compareFractions 93 = some (94, [], .lcmp) := by decide +kernel
theorem eX8_compareFractions_94 : mn_dec cX8_compareFractions 94 = some (97, [105], .ifCond .ne 11) := by decide +kernel
theorem eX8_compareFractions_97 : mn_dec cX8_compareFractions 97 = some (99, [], .lload 21) := by decide +kernel
theorem eX8_compareFractions_99 : mn_dec cX8_compareFractions 99 = some (101, [], .lload 23) := by decide +kernel
theorem eX8_compareFractions_101 : mn_dec cX8_compareFractions 101 = some (104, [], .invokestatic 233) := by decide +kernel
theorem eX8_compareFractions_104 : mn_dec cX8_compareFractions 104 = some (105, [], .ireturn) := by decide +kernel
theorem eX8_compareFractions_105 : mn_dec cX8_compareFractions 105 = some (107, [], .lload 14) := by decide +kernel
theorem eX8_compareFractions_107 : mn_dec cX8_compareFractions 107 = some (109, [], .lstore 8) := by decide +kernel
theorem eX8_compareFractions_109 : mn_dec cX8_compareFractions 109 = some (111, [], .lload 10) := by decide +kernel
theorem eX8_compareFractions_111 : mn_dec cX8_compareFractions 111 = some (113, [], .lstore 12) := by decide +kernel
theorem eX8_compareFractions_113 : mn_dec cX8_compareFractions 113 = some (115, [], .lload 23) := by decide +kernel
theorem eX8_compareFractions_115 : mn_dec cX8_compareFractions 115 = some (117, [], .lstore 10) := by decide +kernel
theorem eX8_compareFractions_117 : mn_dec cX8_compareFractions 117 = some (119, [], .lload 21) := by decide +kernel
theorem eX8_compareFractions_119 : mn_dec cX8_compareFractions 119 = some (121, [], .lstore 14) := by decide +kernel
theorem eX8_compareFractions_121 : mn_dec cX8_compareFractions 121 = some (124, [], .iinc 16 1) := by decide +kernel
theorem eX8_compareFractions_124 : mn_dec cX8_compareFractions 124 = some (127, [17], .goto (-107)) := by decide +kernel
theorem eX8_compareFractions_127 : mn_dec cX8_compareFractions 127 = some (128, [], .iconst 0) := by decide +kernel
theorem eX8_compareFractions_128 : mn_dec cX8_compareFractions 128 = some (129, [], .ireturn) := by decide +kernel
