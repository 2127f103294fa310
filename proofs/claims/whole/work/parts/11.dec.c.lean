theorem eX9_in_0 : mn_dec cX9_in 0 = some (1, [], .lload 0) := by decide +kernel
theorem eX9_in_1 : mn_dec cX9_in 1 = some (2, [], .lload 2) := by decide +kernel
theorem eX9_in_2 : mn_dec cX9_in 2 = some (3, [], .lcmp) := by decide +kernel
theorem eX9_in_3 : mn_dec cX9_in 3 = some (6, [17], .ifCond .lt 14) := by decide +kernel
theorem eX9_in_6 : mn_dec cX9_in 6 = some (7, [], .lload 0) := by decide +kernel
theorem eX9_in_7 : mn_dec cX9_in 7 = some (9, [], .lload 4) := by decide +kernel
theorem eX9_in_9 : mn_dec cX9_in 9 = some (10, [], .lcmp) := by decide +kernel
theorem eX9_in_10 : mn_dec cX9_in 10 = some (13, [17], .ifCond .gt 7) := by decide +kernel
theorem eX9_in_13 : mn_dec cX9_in 13 = some (14, [], .iconst 1) := by decide +kernel
theorem eX9_in_14 : mn_dec cX9_in 14 = some (17, [18], .goto 4) := by decide +kernel
theorem eX9_in_17 : mn_dec cX9_in 17 = some (18, [], .iconst 0) := by decide +kernel
theorem eX9_in_18 : mn_dec cX9_in 18 = some (19, [], .ireturn) := by decide +kernel
theorem eX9_size_0 : mn_dec cX9_size 0 = some (1, [], .iload 0) := by decide +kernel
theorem eX9_size_1 : mn_dec cX9_size 1 = some (4, [9], .ifCond .ge 8) := by decide +kernel
theorem eX9_size_4 : mn_dec cX9_size 4 = some (5, [], .iload 0) := by decide +kernel
theorem eX9_size_5 : mn_dec cX9_size 5 = some (6, [], .ineg) := by decide +kernel
theorem eX9_size_6 : mn_dec cX9_size 6 = some (9, [10], .goto 4) := by decide +kernel
theorem eX9_size_9 : mn_dec cX9_size 9 = some (10, [], .iload 0) := by decide +kernel
theorem eX9_size_10 : mn_dec cX9_size 10 = some (11, [], .ireturn) := by decide +kernel
theorem eX9_isOne_0 : mn_dec cX9_isOne 0 = some (1, [], .iload 1) := by decide +kernel
theorem eX9_isOne_1 : mn_dec cX9_isOne 1 = some (2, [], .i2l) := by decide +kernel
theorem eX9_isOne_2 : mn_dec cX9_isOne 2 = some (3, [], .lconst 0) := by decide +kernel
theorem eX9_isOne_3 : mn_dec cX9_isOne 3 = some (4, [], .aload 0) := by decide +kernel
theorem eX9_isOne_4 : mn_dec cX9_isOne 4 = some (7, [], .getfield 58) := by decide +kernel
theorem eX9_isOne_7 : mn_dec cX9_isOne 7 = some (8, [], .iconst 1) := by decide +kernel
theorem eX9_isOne_8 : mn_dec cX9_isOne 8 = some (9, [], .isub) := by decide +kernel
theorem eX9_isOne_9 : mn_dec cX9_isOne 9 = some (10, [], .i2l) := by decide +kernel
theorem eX9_isOne_10 : mn_dec cX9_isOne 10 = some (13, [], .invokestatic 61) := by decide +kernel
theorem eX9_isOne_13 : mn_dec cX9_isOne 13 = some (14, [], .ireturn) := by decide +kernel
theorem eX9_weightOf_0 : mn_dec cX9_weightOf 0 = some (1, [], .aload 0) := by decide +kernel
theorem eX9_weightOf_1 : mn_dec cX9_weightOf 1 = some (4, [], .getfield 17) := by decide +kernel
theorem eX9_weightOf_4 : mn_dec cX9_weightOf 4 = some (6, [], .iconst 12) := by decide +kernel
theorem eX9_weightOf_6 : mn_dec cX9_weightOf 6 = some (7, [], .iload 1) := by decide +kernel
theorem eX9_weightOf_7 : mn_dec cX9_weightOf 7 = some (8, [], .imul) := by decide +kernel
theorem eX9_weightOf_8 : mn_dec cX9_weightOf 8 = some (9, [], .iload 2) := by decide +kernel
theorem eX9_weightOf_9 : mn_dec cX9_weightOf 9 = some (10, [], .iadd) := by decide +kernel
theorem eX9_weightOf_10 : mn_dec cX9_weightOf 10 = some (11, [], .iaload) := by decide +kernel
theorem eX9_weightOf_11 : mn_dec cX9_weightOf 11 = some (12, [], .ireturn) := by decide +kernel
theorem eX9_one_0 : mn_dec cX9_one 0 = some (1, [], .iload 1) := by decide +kernel
theorem eX9_one_1 : mn_dec cX9_one 1 = some (2, [], .i2l) := by decide +kernel
theorem eX9_one_2 : mn_dec cX9_one 2 = some (3, [], .lconst 0) := by decide +kernel
theorem eX9_one_3 : mn_dec cX9_one 3 = some (6, [], .ldc2_w 65) := by decide +kernel
theorem eX9_one_6 : mn_dec cX9_one 6 = some (9, [], .invokestatic 61) := by decide +kernel
theorem eX9_one_9 : mn_dec cX9_one 9 = some (12, [15], .ifCond .ne 6) := by decide +kernel
theorem eX9_one_12 : mn_dec cX9_one 12 = some (14, [], .iconst (-2)) := by decide +kernel
theorem eX9_one_14 : mn_dec cX9_one 14 = some (15, [], .ireturn) := by decide +kernel
theorem eX9_one_15 : mn_dec cX9_one 15 = some (16, [], .aload 0) := by decide +kernel
theorem eX9_one_16 : mn_dec cX9_one 16 = some (19, [], .getfield 58) := by decide +kernel
theorem eX9_one_19 : mn_dec cX9_one 19 = some (21, [], .iconst 12) := by decide +kernel
theorem eX9_one_21 : mn_dec cX9_one 21 = some (24, [27], .if_icmp .ne 6) := by decide +kernel
theorem eX9_one_24 : mn_dec cX9_one 24 = some (26, [], .iconst (-4)) := by decide +kernel
theorem eX9_one_26 : mn_dec cX9_one 26 = some (27, [], .ireturn) := by decide +kernel
theorem eX9_one_27 : mn_dec cX9_one 27 = some (28, [], .aload 0) := by decide +kernel
theorem eX9_one_28 : mn_dec cX9_one 28 = some (31, [], .getfield 7) := by decide +kernel
theorem eX9_one_31 : mn_dec cX9_one 31 = some (32, [], .aload 0) := by decide +kernel
theorem eX9_one_32 : mn_dec cX9_one 32 = some (35, [], .getfield 58) := by decide +kernel
theorem eX9_one_35 : mn_dec cX9_one 35 = some (36, [], .iload 1) := by decide +kernel
theorem eX9_one_36 : mn_dec cX9_one 36 = some (37, [], .iastore) := by decide +kernel
theorem eX9_one_37 : mn_dec cX9_one 37 = some (38, [], .aload 0) := by decide +kernel
theorem eX9_one_38 : mn_dec cX9_one 38 = some (41, [], .getfield 17) := by decide +kernel
theorem eX9_one_41 : mn_dec cX9_one 41 = some (43, [], .iconst 12) := by decide +kernel
theorem eX9_one_43 : mn_dec cX9_one 43 = some (44, [], .aload 0) := by decide +kernel
theorem eX9_one_44 : mn_dec cX9_one 44 = some (47, [], .getfield 58) := by decide +kernel
theorem eX9_one_47 : mn_dec cX9_one 47 = some (48, [], .imul) := by decide +kernel
theorem eX9_one_48 : mn_dec cX9_one 48 = some (49, [], .aload 0) := by decide +kernel
theorem eX9_one_49 : mn_dec cX9_one 49 = some (52, [], .getfield 58) := by decide +kernel
theorem eX9_one_52 : mn_dec cX9_one 52 = some (53, [], .iadd) := by decide +kernel
theorem eX9_one_53 : mn_dec cX9_one 53 = some (54, [], .iconst 1) := by decide +kernel
theorem eX9_one_54 : mn_dec cX9_one 54 = some (55, [], .iastore) := by decide +kernel
theorem eX9_one_55 : mn_dec cX9_one 55 = some (56, [], .aload 0) := by decide +kernel
theorem eX9_one_56 : mn_dec cX9_one 56 = some (57, [], .dup) := by decide +kernel
theorem eX9_one_57 : mn_dec cX9_one 57 = some (60, [], .getfield 58) := by decide +kernel
theorem eX9_one_60 : mn_dec cX9_one 60 = some (61, [], .iconst 1) := by decide +kernel
theorem eX9_one_61 : mn_dec cX9_one 61 = some (62, [], .iadd) := by decide +kernel
theorem eX9_one_62 : mn_dec cX9_one 62 = some (65, [], .putfield 58) := by decide +kernel
theorem eX9_one_65 : mn_dec cX9_one 65 = some (66, [], .aload 0) := by decide +kernel
theorem eX9_one_66 : mn_dec cX9_one 66 = some (69, [], .getfield 58) := by decide +kernel
theorem eX9_one_69 : mn_dec cX9_one 69 = some (70, [], .iconst 1) := by decide +kernel
theorem eX9_one_70 : mn_dec cX9_one 70 = some (71, [], .isub) := by decide +kernel
theorem eX9_one_71 : mn_dec cX9_one 71 = some (72, [], .ireturn) := by decide +kernel
theorem eX9_think_0 : mn_dec cX9_think 0 = some (1, [], .aload 0) := by decide +kernel
theorem eX9_think_1 : mn_dec cX9_think 1 = some (2, [], .iload 1) := by decide +kernel
theorem eX9_think_2 : mn_dec cX9_think 2 = some (5, [], .invokevirtual 67) := by decide +kernel
theorem eX9_think_5 : mn_dec cX9_think 5 = some (8, [10], .ifCond .ne 5) := by decide +kernel
theorem eX9_think_8 : mn_dec cX9_think 8 = some (9, [], .iconst (-1)) := by decide +kernel
theorem eX9_think_9 : mn_dec cX9_think 9 = some (10, [], .ireturn) := by decide +kernel
theorem eX9_think_10 : mn_dec cX9_think 10 = some (11, [], .iload 2) := by decide +kernel
theorem eX9_think_11 : mn_dec cX9_think 11 = some (12, [], .i2l) := by decide +kernel
theorem eX9_think_12 : mn_dec cX9_think 12 = some (13, [], .lconst 0) := by decide +kernel
theorem eX9_think_13 : mn_dec cX9_think 13 = some (16, [], .ldc2_w 65) := by decide +kernel
theorem eX9_think_16 : mn_dec cX9_think 16 = some (19, [], .invokestatic 61) := by decide +kernel
theorem eX9_think_19 : mn_dec cX9_think 19 = some (22, [25], .ifCond .ne 6) := by decide +kernel
theorem eX9_think_22 : mn_dec cX9_think 22 = some (24, [], .iconst (-2)) := by decide +kernel
theorem eX9_think_24 : mn_dec cX9_think 24 = some (25, [], .ireturn) := by decide +kernel
theorem eX9_think_25 : mn_dec cX9_think 25 = some (26, [], .aload 0) := by decide +kernel
theorem eX9_think_26 : mn_dec cX9_think 26 = some (29, [], .getfield 7) := by decide +kernel
theorem eX9_think_29 : mn_dec cX9_think 29 = some (30, [], .iload 1) := by decide +kernel
theorem eX9_think_30 : mn_dec cX9_think 30 = some (31, [], .iaload) := by decide +kernel
theorem eX9_think_31 : mn_dec cX9_think 31 = some (32, [], .istore 3) := by decide +kernel
theorem eX9_think_32 : mn_dec cX9_think 32 = some (33, [], .aload 0) := by decide +kernel
theorem eX9_think_33 : mn_dec cX9_think 33 = some (36, [], .getfield 7) := by decide +kernel
theorem eX9_think_36 : mn_dec cX9_think 36 = some (37, [], .iload 1) := by decide +kernel
theorem eX9_think_37 : mn_dec cX9_think 37 = some (38, [], .iload 2) := by decide +kernel
theorem eX9_think_38 : mn_dec cX9_think 38 = some (39, [], .iastore) := by decide +kernel
theorem eX9_think_39 : mn_dec cX9_think 39 = some (40, [], .iload 3) := by decide +kernel
theorem eX9_think_40 : mn_dec cX9_think 40 = some (41, [], .ireturn) := by decide +kernel
theorem eX9_stubborn_0 : mn_dec cX9_stubborn 0 = some (1, [], .aload 0) := by decide +kernel
theorem eX9_stubborn_1 : mn_dec cX9_stubborn 1 = some (2, [], .iload 1) := by decide +kernel
theorem eX9_stubborn_2 : mn_dec cX9_stubborn 2 = some (5, [], .invokevirtual 67) := by decide +kernel
theorem eX9_stubborn_5 : mn_dec cX9_stubborn 5 = some (8, [10], .ifCond .ne 5) := by decide +kernel
theorem eX9_stubborn_8 : mn_dec cX9_stubborn 8 = some (9, [], .iconst (-1)) := by decide +kernel
theorem eX9_stubborn_9 : mn_dec cX9_stubborn 9 = some (10, [], .ireturn) := by decide +kernel
theorem eX9_stubborn_10 : mn_dec cX9_stubborn 10 = some (11, [], .aload 0) := by decide +kernel
theorem eX9_stubborn_11 : mn_dec cX9_stubborn 11 = some (14, [], .getfield 13) := by decide +kernel
theorem eX9_stubborn_14 : mn_dec cX9_stubborn 14 = some (15, [], .iload 1) := by decide +kernel
theorem eX9_stubborn_15 : mn_dec cX9_stubborn 15 = some (16, [], .baload) := by decide +kernel
theorem eX9_stubborn_16 : mn_dec cX9_stubborn 16 = some (19, [23], .ifCond .eq 7) := by decide +kernel
theorem eX9_stubborn_19 : mn_dec cX9_stubborn 19 = some (20, [], .iconst 1) := by decide +kernel
theorem eX9_stubborn_20 : mn_dec cX9_stubborn 20 = some (23, [24], .goto 4) := by decide +kernel
theorem eX9_stubborn_23 : mn_dec cX9_stubborn 23 = some (24, [], .iconst 0) := by decide +kernel
theorem eX9_stubborn_24 : mn_dec cX9_stubborn 24 = some (25, [], .istore 3) := by decide +kernel
theorem eX9_stubborn_25 : mn_dec cX9_stubborn 25 = some (26, [], .aload 0) := by decide +kernel
theorem eX9_stubborn_26 : mn_dec cX9_stubborn 26 = some (29, [], .getfield 13) := by decide +kernel
theorem eX9_stubborn_29 : mn_dec cX9_stubborn 29 = some (30, [], .iload 1) := by decide +kernel
theorem eX9_stubborn_30 : mn_dec cX9_stubborn 30 = some (31, [], .iload 2) := by decide +kernel
theorem eX9_stubborn_31 : mn_dec cX9_stubborn 31 = some (32, [], .bastore) := by decide +kernel
theorem eX9_stubborn_32 : mn_dec cX9_stubborn 32 = some (33, [], .iload 3) := by decide +kernel
theorem eX9_stubborn_33 : mn_dec cX9_stubborn 33 = some (34, [], .ireturn) := by decide +kernel
theorem eX9_weight_0 : mn_dec cX9_weight 0 = some (1, [], .aload 0) := by decide +kernel
theorem eX9_weight_1 : mn_dec cX9_weight 1 = some (2, [], .iload 1) := by decide +kernel
theorem eX9_weight_2 : mn_dec cX9_weight 2 = some (5, [], .invokevirtual 67) := by decide +kernel
theorem eX9_weight_5 : mn_dec cX9_weight 5 = some (8, [16], .ifCond .eq 11) := by decide +kernel
theorem eX9_weight_8 : mn_dec cX9_weight 8 = some (9, [], .aload 0) := by decide +kernel
theorem eX9_weight_9 : mn_dec cX9_weight 9 = some (10, [], .iload 2) := by decide +kernel
theorem eX9_weight_10 : mn_dec cX9_weight 10 = some (13, [], .invokevirtual 67) := by decide +kernel
theorem eX9_weight_13 : mn_dec cX9_weight 13 = some (16, [18], .ifCond .ne 5) := by decide +kernel
theorem eX9_weight_16 : mn_dec cX9_weight 16 = some (17, [], .iconst (-1)) := by decide +kernel
theorem eX9_weight_17 : mn_dec cX9_weight 17 = some (18, [], .ireturn) := by decide +kernel
theorem eX9_weight_18 : mn_dec cX9_weight 18 = some (19, [], .iload 3) := by decide +kernel
theorem eX9_weight_19 : mn_dec cX9_weight 19 = some (20, [], .i2l) := by decide +kernel
theorem eX9_weight_20 : mn_dec cX9_weight 20 = some (21, [], .lconst 0) := by decide +kernel
theorem eX9_weight_21 : mn_dec cX9_weight 21 = some (24, [], .ldc2_w 71) := by decide +kernel
theorem eX9_weight_24 : mn_dec cX9_weight 24 = some (27, [], .invokestatic 61) := by decide +kernel
theorem eX9_weight_27 : mn_dec cX9_weight 27 = some (30, [33], .ifCond .ne 6) := by decide +kernel
theorem eX9_weight_30 : mn_dec cX9_weight 30 = some (32, [], .iconst (-2)) := by decide +kernel
theorem eX9_weight_32 : mn_dec cX9_weight 32 = some (33, [], .ireturn) := by decide +kernel
theorem eX9_weight_33 : mn_dec cX9_weight 33 = some (34, [], .aload 0) := by decide +kernel
theorem eX9_weight_34 : mn_dec cX9_weight 34 = some (35, [], .iload 1) := by decide +kernel
theorem eX9_weight_35 : mn_dec cX9_weight 35 = some (36, [], .iload 2) := by decide +kernel
theorem eX9_weight_36 : mn_dec cX9_weight 36 = some (39, [], .invokevirtual 73) := by decide +kernel
theorem eX9_weight_39 : mn_dec cX9_weight 39 = some (41, [], .istore 4) := by decide +kernel
theorem eX9_weight_41 : mn_dec cX9_weight 41 = some (42, [], .aload 0) := by decide +kernel
theorem eX9_weight_42 : mn_dec cX9_weight 42 = some (45, [], .getfield 17) := by decide +kernel
theorem eX9_weight_45 : mn_dec cX9_weight 45 = some (47, [], .iconst 12) := by decide +kernel
theorem eX9_weight_47 : mn_dec cX9_weight 47 = some (48, [], .iload 1) := by decide +kernel
theorem eX9_weight_48 : mn_dec cX9_weight 48 = some (49, [], .imul) := by decide +kernel
theorem eX9_weight_49 : mn_dec cX9_weight 49 = some (50, [], .iload 2) := by decide +kernel
theorem eX9_weight_50 : mn_dec cX9_weight 50 = some (51, [], .iadd) := by decide +kernel
theorem eX9_weight_51 : mn_dec cX9_weight 51 = some (52, [], .iload 3) := by decide +kernel
theorem eX9_weight_52 : mn_dec cX9_weight 52 = some (53, [], .iastore) := by decide +kernel
theorem eX9_weight_53 : mn_dec cX9_weight 53 = some (55, [], .iload 4) := by decide +kernel
theorem eX9_weight_55 : mn_dec cX9_weight 55 = some (56, [], .ireturn) := by decide +kernel
theorem eX9_ear_0 : mn_dec cX9_ear 0 = some (1, [], .iload 1) := by decide +kernel
theorem eX9_ear_1 : mn_dec cX9_ear 1 = some (2, [], .i2l) := by decide +kernel
theorem eX9_ear_2 : mn_dec cX9_ear 2 = some (3, [], .lconst 0) := by decide +kernel
theorem eX9_ear_3 : mn_dec cX9_ear 3 = some (6, [], .ldc2_w 65) := by decide +kernel
theorem eX9_ear_6 : mn_dec cX9_ear 6 = some (9, [], .invokestatic 61) := by decide +kernel
theorem eX9_ear_9 : mn_dec cX9_ear 9 = some (12, [15], .ifCond .ne 6) := by decide +kernel
theorem eX9_ear_12 : mn_dec cX9_ear 12 = some (14, [], .iconst (-2)) := by decide +kernel
theorem eX9_ear_14 : mn_dec cX9_ear 14 = some (15, [], .ireturn) := by decide +kernel
theorem eX9_ear_15 : mn_dec cX9_ear 15 = some (16, [], .aload 0) := by decide +kernel
theorem eX9_ear_16 : mn_dec cX9_ear 16 = some (19, [], .getfield 20) := by decide +kernel
theorem eX9_ear_19 : mn_dec cX9_ear 19 = some (20, [], .istore 2) := by decide +kernel
theorem eX9_ear_20 : mn_dec cX9_ear 20 = some (21, [], .aload 0) := by decide +kernel
theorem eX9_ear_21 : mn_dec cX9_ear 21 = some (22, [], .iload 1) := by decide +kernel
theorem eX9_ear_22 : mn_dec cX9_ear 22 = some (25, [], .putfield 20) := by decide +kernel
theorem eX9_ear_25 : mn_dec cX9_ear 25 = some (26, [], .iload 2) := by decide +kernel
theorem eX9_ear_26 : mn_dec cX9_ear 26 = some (27, [], .ireturn) := by decide +kernel
theorem eX9_hears_0 : mn_dec cX9_hears 0 = some (1, [], .iload 1) := by decide +kernel
theorem eX9_hears_1 : mn_dec cX9_hears 1 = some (2, [], .iload 2) := by decide +kernel
theorem eX9_hears_2 : mn_dec cX9_hears 2 = some (5, [37], .if_icmp .eq 35) := by decide +kernel
theorem eX9_hears_5 : mn_dec cX9_hears 5 = some (6, [], .aload 0) := by decide +kernel
theorem eX9_hears_6 : mn_dec cX9_hears 6 = some (7, [], .iload 1) := by decide +kernel
theorem eX9_hears_7 : mn_dec cX9_hears 7 = some (8, [], .iload 2) := by decide +kernel
theorem eX9_hears_8 : mn_dec cX9_hears 8 = some (11, [], .invokevirtual 73) := by decide +kernel
theorem eX9_hears_11 : mn_dec cX9_hears 11 = some (14, [41], .ifCond .le 30) := by decide +kernel
theorem eX9_hears_14 : mn_dec cX9_hears 14 = some (15, [], .aload 0) := by decide +kernel
theorem eX9_hears_15 : mn_dec cX9_hears 15 = some (18, [], .getfield 7) := by decide +kernel
theorem eX9_hears_18 : mn_dec cX9_hears 18 = some (19, [], .iload 1) := by decide +kernel
theorem eX9_hears_19 : mn_dec cX9_hears 19 = some (20, [], .iaload) := by decide +kernel
theorem eX9_hears_20 : mn_dec cX9_hears 20 = some (21, [], .aload 0) := by decide +kernel
theorem eX9_hears_21 : mn_dec cX9_hears 21 = some (24, [], .getfield 7) := by decide +kernel
theorem eX9_hears_24 : mn_dec cX9_hears 24 = some (25, [], .iload 2) := by decide +kernel
theorem eX9_hears_25 : mn_dec cX9_hears 25 = some (26, [], .iaload) := by decide +kernel
theorem eX9_hears_26 : mn_dec cX9_hears 26 = some (27, [], .isub) := by decide +kernel
theorem eX9_hears_27 : mn_dec cX9_hears 27 = some (30, [], .invokestatic 77) := by decide +kernel
theorem eX9_hears_30 : mn_dec cX9_hears 30 = some (31, [], .aload 0) := by decide +kernel
theorem eX9_hears_31 : mn_dec cX9_hears 31 = some (34, [], .getfield 20) := by decide +kernel
theorem eX9_hears_34 : mn_dec cX9_hears 34 = some (37, [41], .if_icmp .gt 7) := by decide +kernel
theorem eX9_hears_37 : mn_dec cX9_hears 37 = some (38, [], .iconst 1) := by decide +kernel
theorem eX9_hears_38 : mn_dec cX9_hears 38 = some (41, [42], .goto 4) := by decide +kernel
theorem eX9_hears_41 : mn_dec cX9_hears 41 = some (42, [], .iconst 0) := by decide +kernel
theorem eX9_hears_42 : mn_dec cX9_hears 42 = some (43, [], .ireturn) := by decide +kernel
theorem eX9_round_0 : mn_dec cX9_round 0 = some (1, [], .iconst 0) := by decide +kernel
theorem eX9_round_1 : mn_dec cX9_round 1 = some (2, [], .istore 1) := by decide +kernel
theorem eX9_round_2 : mn_dec cX9_round 2 = some (3, [], .iconst 0) := by decide +kernel
theorem eX9_round_3 : mn_dec cX9_round 3 = some (4, [], .istore 2) := by decide +kernel
theorem eX9_round_4 : mn_dec cX9_round 4 = some (5, [], .iload 2) := by decide +kernel
theorem eX9_round_5 : mn_dec cX9_round 5 = some (6, [], .aload 0) := by decide +kernel
theorem eX9_round_6 : mn_dec cX9_round 6 = some (9, [], .getfield 58) := by decide +kernel
theorem eX9_round_9 : mn_dec cX9_round 9 = some (12, [139], .if_icmp .ge 130) := by decide +kernel
theorem eX9_round_12 : mn_dec cX9_round 12 = some (13, [], .iconst 0) := by decide +kernel
theorem eX9_round_13 : mn_dec cX9_round 13 = some (14, [], .istore 3) := by decide +kernel
theorem eX9_round_14 : mn_dec cX9_round 14 = some (15, [], .iconst 0) := by decide +kernel
theorem eX9_round_15 : mn_dec cX9_round 15 = some (17, [], .istore 4) := by decide +kernel
theorem eX9_round_17 : mn_dec cX9_round 17 = some (18, [], .iconst 0) := by decide +kernel
theorem eX9_round_18 : mn_dec cX9_round 18 = some (20, [], .istore 5) := by decide +kernel
theorem eX9_round_20 : mn_dec cX9_round 20 = some (22, [], .iload 5) := by decide +kernel
theorem eX9_round_22 : mn_dec cX9_round 22 = some (23, [], .aload 0) := by decide +kernel
theorem eX9_round_23 : mn_dec cX9_round 23 = some (26, [], .getfield 58) := by decide +kernel
theorem eX9_round_26 : mn_dec cX9_round 26 = some (29, [75], .if_icmp .ge 49) := by decide +kernel
theorem eX9_round_29 : mn_dec cX9_round 29 = some (30, [], .aload 0) := by decide +kernel
theorem eX9_round_30 : mn_dec cX9_round 30 = some (31, [], .iload 2) := by decide +kernel
theorem eX9_round_31 : mn_dec cX9_round 31 = some (33, [], .iload 5) := by decide +kernel
theorem eX9_round_33 : mn_dec cX9_round 33 = some (36, [], .invokevirtual 81) := by decide +kernel
theorem eX9_round_36 : mn_dec cX9_round 36 = some (39, [69], .ifCond .eq 33) := by decide +kernel
theorem eX9_round_39 : mn_dec cX9_round 39 = some (40, [], .iload 3) := by decide +kernel
theorem eX9_round_40 : mn_dec cX9_round 40 = some (41, [], .aload 0) := by decide +kernel
theorem eX9_round_41 : mn_dec cX9_round 41 = some (42, [], .iload 2) := by decide +kernel
theorem eX9_round_42 : mn_dec cX9_round 42 = some (44, [], .iload 5) := by decide +kernel
theorem eX9_round_44 : mn_dec cX9_round 44 = some (47, [], .invokevirtual 73) := by decide +kernel
theorem eX9_round_47 : mn_dec cX9_round 47 = some (48, [], .aload 0) := by decide +kernel
theorem eX9_round_48 : mn_dec cX9_round 48 = some (51, [], .getfield 7) := by decide +kernel
theorem eX9_round_51 : mn_dec cX9_round 51 = some (53, [], .iload 5) := by decide +kernel
theorem eX9_round_53 : mn_dec cX9_round 53 = some (54, [], .iaload) := by decide +kernel
theorem eX9_round_54 : mn_dec cX9_round 54 = some (55, [], .imul) := by decide +kernel
theorem eX9_round_55 : mn_dec cX9_round 55 = some (56, [], .iadd) := by decide +kernel
theorem eX9_round_56 : mn_dec cX9_round 56 = some (57, [], .istore 3) := by decide +kernel
theorem eX9_round_57 : mn_dec cX9_round 57 = some (59, [], .iload 4) := by decide +kernel
theorem eX9_round_59 : mn_dec cX9_round 59 = some (60, [], .aload 0) := by decide +kernel
theorem eX9_round_60 : mn_dec cX9_round 60 = some (61, [], .iload 2) := by decide +kernel
theorem eX9_round_61 : mn_dec cX9_round 61 = some (63, [], .iload 5) := by decide +kernel
theorem eX9_round_63 : mn_dec cX9_round 63 = some (66, [], .invokevirtual 73) := by decide +kernel
theorem eX9_round_66 : mn_dec cX9_round 66 = some (67, [], .iadd) := by decide +kernel
theorem eX9_round_67 : mn_dec cX9_round 67 = some (69, [], .istore 4) := by decide +kernel
theorem eX9_round_69 : mn_dec cX9_round 69 = some (72, [], .iinc 5 1) := by decide +kernel
theorem eX9_round_72 : mn_dec cX9_round 72 = some (75, [20], .goto (-52)) := by decide +kernel
theorem eX9_round_75 : mn_dec cX9_round 75 = some (76, [], .aload 0) := by decide +kernel
theorem eX9_round_76 : mn_dec cX9_round 76 = some (79, [], .getfield 27) := by decide +kernel
theorem eX9_round_79 : mn_dec cX9_round 79 = some (80, [], .iload 2) := by decide +kernel
theorem eX9_round_80 : mn_dec cX9_round 80 = some (81, [], .aload 0) := by decide +kernel
theorem eX9_round_81 : mn_dec cX9_round 81 = some (84, [], .getfield 13) := by decide +kernel
theorem eX9_round_84 : mn_dec cX9_round 84 = some (85, [], .iload 2) := by decide +kernel
theorem eX9_round_85 : mn_dec cX9_round 85 = some (86, [], .baload) := by decide +kernel
theorem eX9_round_86 : mn_dec cX9_round 86 = some (89, [94], .ifCond .ne 8) := by decide +kernel
theorem eX9_round_89 : mn_dec cX9_round 89 = some (91, [], .iload 4) := by decide +kernel
theorem eX9_round_91 : mn_dec cX9_round 91 = some (94, [103], .ifCond .ne 12) := by decide +kernel
theorem eX9_round_94 : mn_dec cX9_round 94 = some (95, [], .aload 0) := by decide +kernel
theorem eX9_round_95 : mn_dec cX9_round 95 = some (98, [], .getfield 7) := by decide +kernel
theorem eX9_round_98 : mn_dec cX9_round 98 = some (99, [], .iload 2) := by decide +kernel
theorem eX9_round_99 : mn_dec cX9_round 99 = some (100, [], .iaload) := by decide +kernel
theorem eX9_round_100 : mn_dec cX9_round 100 = some (103, [107], .goto 7) := by decide +kernel
theorem eX9_round_103 : mn_dec cX9_round 103 = some (104, [], .iload 3) := by decide +kernel
theorem eX9_round_104 : mn_dec cX9_round 104 = some (106, [], .iload 4) := by decide +kernel
theorem eX9_round_106 : mn_dec cX9_round 106 = some (107, [], .idiv) := by decide +kernel
theorem eX9_round_107 : mn_dec cX9_round 107 = some (108, [], .iastore) := by decide +kernel
theorem eX9_round_108 : mn_dec cX9_round 108 = some (109, [], .iload 1) := by decide +kernel
theorem eX9_round_109 : mn_dec cX9_round 109 = some (112, [127], .ifCond .ne 18) := by decide +kernel
theorem eX9_round_112 : mn_dec cX9_round 112 = some (113, [], .aload 0) := by decide +kernel
theorem eX9_round_113 : mn_dec cX9_round 113 = some (116, [], .getfield 27) := by decide +kernel
theorem eX9_round_116 : mn_dec cX9_round 116 = some (117, [], .iload 2) := by decide +kernel
theorem eX9_round_117 : mn_dec cX9_round 117 = some (118, [], .iaload) := by decide +kernel
theorem eX9_round_118 : mn_dec cX9_round 118 = some (119, [], .aload 0) := by decide +kernel
theorem eX9_round_119 : mn_dec cX9_round 119 = some (122, [], .getfield 7) := by decide +kernel
theorem eX9_round_122 : mn_dec cX9_round 122 = some (123, [], .iload 2) := by decide +kernel
theorem eX9_round_123 : mn_dec cX9_round 123 = some (124, [], .iaload) := by decide +kernel
theorem eX9_round_124 : mn_dec cX9_round 124 = some (127, [131], .if_icmp .eq 7) := by decide +kernel
theorem eX9_round_127 : mn_dec cX9_round 127 = some (128, [], .iconst 1) := by decide +kernel
theorem eX9_round_128 : mn_dec cX9_round 128 = some (131, [132], .goto 4) := by decide +kernel
theorem eX9_round_131 : mn_dec cX9_round 131 = some (132, [], .iconst 0) := by decide +kernel
theorem eX9_round_132 : mn_dec cX9_round 132 = some (133, [], .istore 1) := by decide +kernel
theorem eX9_round_133 : mn_dec cX9_round 133 = some (136, [], .iinc 2 1) := by decide +kernel
theorem eX9_round_136 : mn_dec cX9_round 136 = some (139, [4], .goto (-132)) := by decide +kernel
theorem eX9_round_139 : mn_dec cX9_round 139 = some (140, [], .iconst 0) := by decide +kernel
theorem eX9_round_140 : mn_dec cX9_round 140 = some (141, [], .istore 2) := by decide +kernel
theorem eX9_round_141 : mn_dec cX9_round 141 = some (142, [], .iload 2) := by decide +kernel
theorem eX9_round_142 : mn_dec cX9_round 142 = some (143, [], .aload 0) := by decide +kernel
theorem eX9_round_143 : mn_dec cX9_round 143 = some (146, [], .getfield 58) := by decide +kernel
theorem eX9_round_146 : mn_dec cX9_round 146 = some (149, [167], .if_icmp .ge 21) := by decide +kernel
theorem eX9_round_149 : mn_dec cX9_round 149 = some (150, [], .aload 0) := by decide +kernel
theorem eX9_round_150 : mn_dec cX9_round 150 = some (153, [], .getfield 7) := by decide +kernel
theorem eX9_round_153 : mn_dec cX9_round 153 = some (154, [], .iload 2) := by decide +kernel
theorem eX9_round_154 : mn_dec cX9_round 154 = some (155, [], .aload 0) := by decide +kernel
theorem eX9_round_155 : mn_dec cX9_round 155 = some (158, [], .getfield 27) := by decide +kernel
theorem eX9_round_158 : mn_dec cX9_round 158 = some (159, [], .iload 2) := by decide +kernel
theorem eX9_round_159 : mn_dec cX9_round 159 = some (160, [], .iaload) := by decide +kernel
theorem eX9_round_160 : mn_dec cX9_round 160 = some (161, [], .iastore) := by decide +kernel
theorem eX9_round_161 : mn_dec cX9_round 161 = some (164, [], .iinc 2 1) := by decide +kernel
theorem eX9_round_164 : mn_dec cX9_round 164 = some (167, [141], .goto (-23)) := by decide +kernel
theorem eX9_round_167 : mn_dec cX9_round 167 = some (168, [], .iload 1) := by decide +kernel
theorem eX9_round_168 : mn_dec cX9_round 168 = some (169, [], .ireturn) := by decide +kernel
theorem eX9_rounds_0 : mn_dec cX9_rounds 0 = some (1, [], .iload 1) := by decide +kernel
theorem eX9_rounds_1 : mn_dec cX9_rounds 1 = some (2, [], .i2l) := by decide +kernel
theorem eX9_rounds_2 : mn_dec cX9_rounds 2 = some (3, [], .lconst 1) := by decide +kernel
theorem eX9_rounds_3 : mn_dec cX9_rounds 3 = some (6, [], .ldc2_w 85) := by decide +kernel
theorem eX9_rounds_6 : mn_dec cX9_rounds 6 = some (9, [], .invokestatic 61) := by decide +kernel
theorem eX9_rounds_9 : mn_dec cX9_rounds 9 = some (12, [15], .ifCond .ne 6) := by decide +kernel
theorem eX9_rounds_12 : mn_dec cX9_rounds 12 = some (14, [], .iconst (-2)) := by decide +kernel
theorem eX9_rounds_14 : mn_dec cX9_rounds 14 = some (15, [], .ireturn) := by decide +kernel
theorem eX9_rounds_15 : mn_dec cX9_rounds 15 = some (16, [], .iconst 0) := by decide +kernel
theorem eX9_rounds_16 : mn_dec cX9_rounds 16 = some (17, [], .istore 2) := by decide +kernel
theorem eX9_rounds_17 : mn_dec cX9_rounds 17 = some (18, [], .iconst 0) := by decide +kernel
theorem eX9_rounds_18 : mn_dec cX9_rounds 18 = some (19, [], .istore 3) := by decide +kernel
theorem eX9_rounds_19 : mn_dec cX9_rounds 19 = some (20, [], .iload 3) := by decide +kernel
theorem eX9_rounds_20 : mn_dec cX9_rounds 20 = some (21, [], .iload 1) := by decide +kernel
theorem eX9_rounds_21 : mn_dec cX9_rounds 21 = some (24, [45], .if_icmp .ge 24) := by decide +kernel
theorem eX9_rounds_24 : mn_dec cX9_rounds 24 = some (25, [], .iload 2) := by decide +kernel
theorem eX9_rounds_25 : mn_dec cX9_rounds 25 = some (26, [], .aload 0) := by decide +kernel
theorem eX9_rounds_26 : mn_dec cX9_rounds 26 = some (29, [], .invokevirtual 87) := by decide +kernel
theorem eX9_rounds_29 : mn_dec cX9_rounds 29 = some (32, [36], .ifCond .eq 7) := by decide +kernel
theorem eX9_rounds_32 : mn_dec cX9_rounds 32 = some (33, [], .iconst 1) := by decide +kernel
theorem eX9_rounds_33 : mn_dec cX9_rounds 33 = some (36, [37], .goto 4) := by decide +kernel
theorem eX9_rounds_36 : mn_dec cX9_rounds 36 = some (37, [], .iconst 0) := by decide +kernel
theorem eX9_rounds_37 : mn_dec cX9_rounds 37 = some (38, [], .iadd) := by decide +kernel
theorem eX9_rounds_38 : mn_dec cX9_rounds 38 = some (39, [], .istore 2) := by decide +kernel
theorem eX9_rounds_39 : mn_dec cX9_rounds 39 = some (42, [], .iinc 3 1) := by decide +kernel
theorem eX9_rounds_42 : mn_dec cX9_rounds 42 = some (45, [19], .goto (-23)) := by decide +kernel
theorem eX9_rounds_45 : mn_dec cX9_rounds 45 = some (46, [], .iload 2) := by decide +kernel
theorem eX9_rounds_46 : mn_dec cX9_rounds 46 = some (47, [], .ireturn) := by decide +kernel
theorem eX9_settles_0 : mn_dec cX9_settles 0 = some (1, [], .iconst 1) := by decide +kernel
theorem eX9_settles_1 : mn_dec cX9_settles 1 = some (2, [], .istore 1) := by decide +kernel
theorem eX9_settles_2 : mn_dec cX9_settles 2 = some (3, [], .iload 1) := by decide +kernel
theorem eX9_settles_3 : mn_dec cX9_settles 3 = some (6, [], .iconst 300) := by decide +kernel
theorem eX9_settles_6 : mn_dec cX9_settles 6 = some (9, [24], .if_icmp .gt 18) := by decide +kernel
theorem eX9_settles_9 : mn_dec cX9_settles 9 = some (10, [], .aload 0) := by decide +kernel
theorem eX9_settles_10 : mn_dec cX9_settles 10 = some (13, [], .invokevirtual 87) := by decide +kernel
theorem eX9_settles_13 : mn_dec cX9_settles 13 = some (16, [18], .ifCond .ne 5) := by decide +kernel
theorem eX9_settles_16 : mn_dec cX9_settles 16 = some (17, [], .iload 1) := by decide +kernel
theorem eX9_settles_17 : mn_dec cX9_settles 17 = some (18, [], .ireturn) := by decide +kernel
theorem eX9_settles_18 : mn_dec cX9_settles 18 = some (21, [], .iinc 1 1) := by decide +kernel
theorem eX9_settles_21 : mn_dec cX9_settles 21 = some (24, [2], .goto (-19)) := by decide +kernel
theorem eX9_settles_24 : mn_dec cX9_settles 24 = some (26, [], .iconst (-7)) := by decide +kernel
theorem eX9_settles_26 : mn_dec cX9_settles 26 = some (27, [], .ireturn) := by decide +kernel
theorem eX9_settle_0 : mn_dec cX9_settle 0 = some (1, [], .aload 0) := by decide +kernel
theorem eX9_settle_1 : mn_dec cX9_settle 1 = some (4, [], .invokevirtual 91) := by decide +kernel
theorem eX9_settle_4 : mn_dec cX9_settle 4 = some (5, [], .ireturn) := by decide +kernel
theorem eX9_findGroups_0 : mn_dec cX9_findGroups 0 = some (1, [], .iconst 0) := by decide +kernel
theorem eX9_findGroups_1 : mn_dec cX9_findGroups 1 = some (2, [], .istore 1) := by decide +kernel
theorem eX9_findGroups_2 : mn_dec cX9_findGroups 2 = some (3, [], .iload 1) := by decide +kernel
theorem eX9_findGroups_3 : mn_dec cX9_findGroups 3 = some (4, [], .aload 0) := by decide +kernel
theorem eX9_findGroups_4 : mn_dec cX9_findGroups 4 = some (7, [], .getfield 58) := by decide +kernel
theorem eX9_findGroups_7 : mn_dec cX9_findGroups 7 = some (10, [23], .if_icmp .ge 16) := by decide +kernel
theorem eX9_findGroups_10 : mn_dec cX9_findGroups 10 = some (11, [], .aload 0) := by decide +kernel
theorem eX9_findGroups_11 : mn_dec cX9_findGroups 11 = some (14, [], .getfield 30) := by decide +kernel
theorem eX9_findGroups_14 : mn_dec cX9_findGroups 14 = some (15, [], .iload 1) := by decide +kernel
theorem eX9_findGroups_15 : mn_dec cX9_findGroups 15 = some (16, [], .iload 1) := by decide +kernel
theorem eX9_findGroups_16 : mn_dec cX9_findGroups 16 = some (17, [], .iastore) := by decide +kernel
theorem eX9_findGroups_17 : mn_dec cX9_findGroups 17 = some (20, [], .iinc 1 1) := by decide +kernel
theorem eX9_findGroups_20 : mn_dec cX9_findGroups 20 = some (23, [2], .goto (-18)) := by decide +kernel
theorem eX9_findGroups_23 : mn_dec cX9_findGroups 23 = some (24, [], .iconst 1) := by decide +kernel
theorem eX9_findGroups_24 : mn_dec cX9_findGroups 24 = some (25, [], .istore 1) := by decide +kernel
theorem eX9_findGroups_25 : mn_dec cX9_findGroups 25 = some (26, [], .iload 1) := by decide +kernel
theorem eX9_findGroups_26 : mn_dec cX9_findGroups 26 = some (29, [140], .ifCond .eq 114) := by decide +kernel
theorem eX9_findGroups_29 : mn_dec cX9_findGroups 29 = some (30, [], .iconst 0) := by decide +kernel
theorem eX9_findGroups_30 : mn_dec cX9_findGroups 30 = some (31, [], .istore 1) := by decide +kernel
theorem eX9_findGroups_31 : mn_dec cX9_findGroups 31 = some (32, [], .iconst 0) := by decide +kernel
theorem eX9_findGroups_32 : mn_dec cX9_findGroups 32 = some (33, [], .istore 2) := by decide +kernel
theorem eX9_findGroups_33 : mn_dec cX9_findGroups 33 = some (34, [], .iload 2) := by decide +kernel
theorem eX9_findGroups_34 : mn_dec cX9_findGroups 34 = some (35, [], .aload 0) := by decide +kernel
theorem eX9_findGroups_35 : mn_dec cX9_findGroups 35 = some (38, [], .getfield 58) := by decide +kernel
theorem eX9_findGroups_38 : mn_dec cX9_findGroups 38 = some (41, [137], .if_icmp .ge 99) := by decide +kernel
theorem eX9_findGroups_41 : mn_dec cX9_findGroups 41 = some (42, [], .iconst 0) := by decide +kernel
theorem eX9_findGroups_42 : mn_dec cX9_findGroups 42 = some (43, [], .istore 3) := by decide +kernel
theorem eX9_findGroups_43 : mn_dec cX9_findGroups 43 = some (44, [], .iload 3) := by decide +kernel
theorem eX9_findGroups_44 : mn_dec cX9_findGroups 44 = some (45, [], .aload 0) := by decide +kernel
theorem eX9_findGroups_45 : mn_dec cX9_findGroups 45 = some (48, [], .getfield 58) := by decide +kernel
theorem eX9_findGroups_48 : mn_dec cX9_findGroups 48 = some (51, [131], .if_icmp .ge 83) := by decide +kernel
theorem eX9_findGroups_51 : mn_dec cX9_findGroups 51 = some (52, [], .aload 0) := by decide +kernel
theorem eX9_findGroups_52 : mn_dec cX9_findGroups 52 = some (55, [], .getfield 30) := by decide +kernel
theorem eX9_findGroups_55 : mn_dec cX9_findGroups 55 = some (56, [], .iload 2) := by decide +kernel
theorem eX9_findGroups_56 : mn_dec cX9_findGroups 56 = some (57, [], .iaload) := by decide +kernel
theorem eX9_findGroups_57 : mn_dec cX9_findGroups 57 = some (58, [], .aload 0) := by decide +kernel
theorem eX9_findGroups_58 : mn_dec cX9_findGroups 58 = some (61, [], .getfield 30) := by decide +kernel
theorem eX9_findGroups_61 : mn_dec cX9_findGroups 61 = some (62, [], .iload 3) := by decide +kernel
theorem eX9_findGroups_62 : mn_dec cX9_findGroups 62 = some (63, [], .iaload) := by decide +kernel
theorem eX9_findGroups_63 : mn_dec cX9_findGroups 63 = some (66, [125], .if_icmp .eq 62) := by decide +kernel
theorem eX9_findGroups_66 : mn_dec cX9_findGroups 66 = some (67, [], .aload 0) := by decide +kernel
theorem eX9_findGroups_67 : mn_dec cX9_findGroups 67 = some (68, [], .iload 2) := by decide +kernel
theorem eX9_findGroups_68 : mn_dec cX9_findGroups 68 = some (69, [], .iload 3) := by decide +kernel
theorem eX9_findGroups_69 : mn_dec cX9_findGroups 69 = some (72, [], .invokevirtual 81) := by decide +kernel
theorem eX9_findGroups_72 : mn_dec cX9_findGroups 72 = some (75, [125], .ifCond .eq 53) := by decide +kernel
theorem eX9_findGroups_75 : mn_dec cX9_findGroups 75 = some (76, [], .aload 0) := by decide +kernel
theorem eX9_findGroups_76 : mn_dec cX9_findGroups 76 = some (79, [], .getfield 30) := by decide +kernel
theorem eX9_findGroups_79 : mn_dec cX9_findGroups 79 = some (80, [], .iload 2) := by decide +kernel
theorem eX9_findGroups_80 : mn_dec cX9_findGroups 80 = some (81, [], .iaload) := by decide +kernel
theorem eX9_findGroups_81 : mn_dec cX9_findGroups 81 = some (82, [], .aload 0) := by decide +kernel
theorem eX9_findGroups_82 : mn_dec cX9_findGroups 82 = some (85, [], .getfield 30) := by decide +kernel
theorem eX9_findGroups_85 : mn_dec cX9_findGroups 85 = some (86, [], .iload 3) := by decide +kernel
theorem eX9_findGroups_86 : mn_dec cX9_findGroups 86 = some (87, [], .iaload) := by decide +kernel
theorem eX9_findGroups_87 : mn_dec cX9_findGroups 87 = some (90, [99], .if_icmp .ge 12) := by decide +kernel
theorem eX9_findGroups_90 : mn_dec cX9_findGroups 90 = some (91, [], .aload 0) := by decide +kernel
theorem eX9_findGroups_91 : mn_dec cX9_findGroups 91 = some (94, [], .getfield 30) := by decide +kernel
theorem eX9_findGroups_94 : mn_dec cX9_findGroups 94 = some (95, [], .iload 2) := by decide +kernel
theorem eX9_findGroups_95 : mn_dec cX9_findGroups 95 = some (96, [], .iaload) := by decide +kernel
theorem eX9_findGroups_96 : mn_dec cX9_findGroups 96 = some (99, [105], .goto 9) := by decide +kernel
theorem eX9_findGroups_99 : mn_dec cX9_findGroups 99 = some (100, [], .aload 0) := by decide +kernel
theorem eX9_findGroups_100 : mn_dec cX9_findGroups 100 = some (103, [], .getfield 30) := by decide +kernel
theorem eX9_findGroups_103 : mn_dec cX9_findGroups 103 = some (104, [], .iload 3) := by decide +kernel
theorem eX9_findGroups_104 : mn_dec cX9_findGroups 104 = some (105, [], .iaload) := by decide +kernel
theorem eX9_findGroups_105 : mn_dec cX9_findGroups 105 = some (107, [], .istore 4) := by decide +kernel
theorem eX9_findGroups_107 : mn_dec cX9_findGroups 107 = some (108, [], .aload 0) := by decide +kernel
theorem eX9_findGroups_108 : mn_dec cX9_findGroups 108 = some (111, [], .getfield 30) := by decide +kernel
theorem eX9_findGroups_111 : mn_dec cX9_findGroups 111 = some (112, [], .iload 2) := by decide +kernel
theorem eX9_findGroups_112 : mn_dec cX9_findGroups 112 = some (114, [], .iload 4) := by decide +kernel
theorem eX9_findGroups_114 : mn_dec cX9_findGroups 114 = some (115, [], .iastore) := by decide +kernel
theorem eX9_findGroups_115 : mn_dec cX9_findGroups 115 = some (116, [], .aload 0) := by decide +kernel
theorem eX9_findGroups_116 : mn_dec cX9_findGroups 116 = some (119, [], .getfield 30) := by decide +kernel
theorem eX9_findGroups_119 : mn_dec cX9_findGroups 119 = some (120, [], .iload 3) := by decide +kernel
theorem eX9_findGroups_120 : mn_dec cX9_findGroups 120 = some (122, [], .iload 4) := by decide +kernel
theorem eX9_findGroups_122 : mn_dec cX9_findGroups 122 = some (123, [], .iastore) := by decide +kernel
theorem eX9_findGroups_123 : mn_dec cX9_findGroups 123 = some (124, [], .iconst 1) := by decide +kernel
theorem eX9_findGroups_124 : mn_dec cX9_findGroups 124 = some (125, [], .istore 1) := by decide +kernel
theorem eX9_findGroups_125 : mn_dec cX9_findGroups 125 = some (128, [], .iinc 3 1) := by decide +kernel
theorem eX9_findGroups_128 : mn_dec cX9_findGroups 128 = some (131, [43], .goto (-85)) := by decide +kernel
theorem eX9_findGroups_131 : mn_dec cX9_findGroups 131 = some (134, [], .iinc 2 1) := by decide +kernel
theorem eX9_findGroups_134 : mn_dec cX9_findGroups 134 = some (137, [33], .goto (-101)) := by decide +kernel
theorem eX9_findGroups_137 : mn_dec cX9_findGroups 137 = some (140, [25], .goto (-112)) := by decide +kernel
theorem eX9_findGroups_140 : mn_dec cX9_findGroups 140 = some (141, [], .iconst 0) := by decide +kernel
theorem eX9_findGroups_141 : mn_dec cX9_findGroups 141 = some (142, [], .istore 2) := by decide +kernel
theorem eX9_findGroups_142 : mn_dec cX9_findGroups 142 = some (143, [], .iconst 0) := by decide +kernel
theorem eX9_findGroups_143 : mn_dec cX9_findGroups 143 = some (144, [], .istore 3) := by decide +kernel
theorem eX9_findGroups_144 : mn_dec cX9_findGroups 144 = some (145, [], .iload 3) := by decide +kernel
theorem eX9_findGroups_145 : mn_dec cX9_findGroups 145 = some (146, [], .aload 0) := by decide +kernel
theorem eX9_findGroups_146 : mn_dec cX9_findGroups 146 = some (149, [], .getfield 58) := by decide +kernel
theorem eX9_findGroups_149 : mn_dec cX9_findGroups 149 = some (152, [176], .if_icmp .ge 27) := by decide +kernel
theorem eX9_findGroups_152 : mn_dec cX9_findGroups 152 = some (153, [], .iload 2) := by decide +kernel
theorem eX9_findGroups_153 : mn_dec cX9_findGroups 153 = some (154, [], .aload 0) := by decide +kernel
theorem eX9_findGroups_154 : mn_dec cX9_findGroups 154 = some (157, [], .getfield 30) := by decide +kernel
theorem eX9_findGroups_157 : mn_dec cX9_findGroups 157 = some (158, [], .iload 3) := by decide +kernel
theorem eX9_findGroups_158 : mn_dec cX9_findGroups 158 = some (159, [], .iaload) := by decide +kernel
theorem eX9_findGroups_159 : mn_dec cX9_findGroups 159 = some (160, [], .iload 3) := by decide +kernel
theorem eX9_findGroups_160 : mn_dec cX9_findGroups 160 = some (163, [167], .if_icmp .ne 7) := by decide +kernel
theorem eX9_findGroups_163 : mn_dec cX9_findGroups 163 = some (164, [], .iconst 1) := by decide +kernel
theorem eX9_findGroups_164 : mn_dec cX9_findGroups 164 = some (167, [168], .goto 4) := by decide +kernel
theorem eX9_findGroups_167 : mn_dec cX9_findGroups 167 = some (168, [], .iconst 0) := by decide +kernel
theorem eX9_findGroups_168 : mn_dec cX9_findGroups 168 = some (169, [], .iadd) := by decide +kernel
theorem eX9_findGroups_169 : mn_dec cX9_findGroups 169 = some (170, [], .istore 2) := by decide +kernel
theorem eX9_findGroups_170 : mn_dec cX9_findGroups 170 = some (173, [], .iinc 3 1) := by decide +kernel
theorem eX9_findGroups_173 : mn_dec cX9_findGroups 173 = some (176, [144], .goto (-29)) := by decide +kernel
theorem eX9_findGroups_176 : mn_dec cX9_findGroups 176 = some (177, [], .iload 2) := by decide +kernel
theorem eX9_findGroups_177 : mn_dec cX9_findGroups 177 = some (178, [], .ireturn) := by decide +kernel
theorem eX9_about_0 : mn_dec cX9_about 0 = some (1, [], .aload 0) := by decide +kernel
theorem eX9_about_1 : mn_dec cX9_about 1 = some (2, [], .iload 1) := by decide +kernel
theorem eX9_about_2 : mn_dec cX9_about 2 = some (5, [], .invokevirtual 67) := by decide +kernel
theorem eX9_about_5 : mn_dec cX9_about 5 = some (8, [10], .ifCond .ne 5) := by decide +kernel
theorem eX9_about_8 : mn_dec cX9_about 8 = some (9, [], .iconst (-1)) := by decide +kernel
theorem eX9_about_9 : mn_dec cX9_about 9 = some (10, [], .ireturn) := by decide +kernel
theorem eX9_about_10 : mn_dec cX9_about 10 = some (11, [], .iconst 0) := by decide +kernel
theorem eX9_about_11 : mn_dec cX9_about 11 = some (12, [], .istore 3) := by decide +kernel
theorem eX9_about_12 : mn_dec cX9_about 12 = some (13, [], .iload 2) := by decide +kernel
theorem eX9_about_13 : mn_dec cX9_about 13 = some (44, [157, 44, 51, 66, 110], .tableswitch 144 0 3 #[31, 38, 53, 97]) := by decide +kernel
theorem eX9_about_44 : mn_dec cX9_about 44 = some (45, [], .aload 0) := by decide +kernel
theorem eX9_about_45 : mn_dec cX9_about 45 = some (48, [], .getfield 7) := by decide +kernel
theorem eX9_about_48 : mn_dec cX9_about 48 = some (49, [], .iload 1) := by decide +kernel
theorem eX9_about_49 : mn_dec cX9_about 49 = some (50, [], .iaload) := by decide +kernel
theorem eX9_about_50 : mn_dec cX9_about 50 = some (51, [], .ireturn) := by decide +kernel
theorem eX9_about_51 : mn_dec cX9_about 51 = some (52, [], .aload 0) := by decide +kernel
theorem eX9_about_52 : mn_dec cX9_about 52 = some (55, [], .getfield 13) := by decide +kernel
theorem eX9_about_55 : mn_dec cX9_about 55 = some (56, [], .iload 1) := by decide +kernel
theorem eX9_about_56 : mn_dec cX9_about 56 = some (57, [], .baload) := by decide +kernel
theorem eX9_about_57 : mn_dec cX9_about 57 = some (60, [64], .ifCond .eq 7) := by decide +kernel
theorem eX9_about_60 : mn_dec cX9_about 60 = some (61, [], .iconst 1) := by decide +kernel
theorem eX9_about_61 : mn_dec cX9_about 61 = some (64, [65], .goto 4) := by decide +kernel
theorem eX9_about_64 : mn_dec cX9_about 64 = some (65, [], .iconst 0) := by decide +kernel
theorem eX9_about_65 : mn_dec cX9_about 65 = some (66, [], .ireturn) := by decide +kernel
theorem eX9_about_66 : mn_dec cX9_about 66 = some (67, [], .iconst 0) := by decide +kernel
theorem eX9_about_67 : mn_dec cX9_about 67 = some (69, [], .istore 4) := by decide +kernel
theorem eX9_about_69 : mn_dec cX9_about 69 = some (71, [], .iload 4) := by decide +kernel
theorem eX9_about_71 : mn_dec cX9_about 71 = some (72, [], .aload 0) := by decide +kernel
theorem eX9_about_72 : mn_dec cX9_about 72 = some (75, [], .getfield 58) := by decide +kernel
theorem eX9_about_75 : mn_dec cX9_about 75 = some (78, [108], .if_icmp .ge 33) := by decide +kernel
theorem eX9_about_78 : mn_dec cX9_about 78 = some (79, [], .iload 3) := by decide +kernel
theorem eX9_about_79 : mn_dec cX9_about 79 = some (81, [], .iload 4) := by decide +kernel
theorem eX9_about_81 : mn_dec cX9_about 81 = some (82, [], .iload 1) := by decide +kernel
theorem eX9_about_82 : mn_dec cX9_about 82 = some (85, [99], .if_icmp .eq 17) := by decide +kernel
theorem eX9_about_85 : mn_dec cX9_about 85 = some (86, [], .aload 0) := by decide +kernel
theorem eX9_about_86 : mn_dec cX9_about 86 = some (87, [], .iload 1) := by decide +kernel
theorem eX9_about_87 : mn_dec cX9_about 87 = some (89, [], .iload 4) := by decide +kernel
theorem eX9_about_89 : mn_dec cX9_about 89 = some (92, [], .invokevirtual 81) := by decide +kernel
theorem eX9_about_92 : mn_dec cX9_about 92 = some (95, [99], .ifCond .eq 7) := by decide +kernel
theorem eX9_about_95 : mn_dec cX9_about 95 = some (96, [], .iconst 1) := by decide +kernel
theorem eX9_about_96 : mn_dec cX9_about 96 = some (99, [100], .goto 4) := by decide +kernel
theorem eX9_about_99 : mn_dec cX9_about 99 = some (100, [], .iconst 0) := by decide +kernel
theorem eX9_about_100 : mn_dec cX9_about 100 = some (101, [], .iadd) := by decide +kernel
theorem eX9_about_101 : mn_dec cX9_about 101 = some (102, [], .istore 3) := by decide +kernel
theorem eX9_about_102 : mn_dec cX9_about 102 = some (105, [], .iinc 4 1) := by decide +kernel
theorem eX9_about_105 : mn_dec cX9_about 105 = some (108, [69], .goto (-36)) := by decide +kernel
theorem eX9_about_108 : mn_dec cX9_about 108 = some (109, [], .iload 3) := by decide +kernel
theorem eX9_about_109 : mn_dec cX9_about 109 = some (110, [], .ireturn) := by decide +kernel
theorem eX9_about_110 : mn_dec cX9_about 110 = some (111, [], .aload 0) := by decide +kernel
theorem eX9_about_111 : mn_dec cX9_about 111 = some (114, [], .invokevirtual 95) := by decide +kernel
theorem eX9_about_114 : mn_dec cX9_about 114 = some (115, [], .pop) := by decide +kernel
theorem eX9_about_115 : mn_dec cX9_about 115 = some (116, [], .iconst 0) := by decide +kernel
theorem eX9_about_116 : mn_dec cX9_about 116 = some (118, [], .istore 4) := by decide +kernel
theorem eX9_about_118 : mn_dec cX9_about 118 = some (120, [], .iload 4) := by decide +kernel
theorem eX9_about_120 : mn_dec cX9_about 120 = some (121, [], .aload 0) := by decide +kernel
theorem eX9_about_121 : mn_dec cX9_about 121 = some (124, [], .getfield 30) := by decide +kernel
theorem eX9_about_124 : mn_dec cX9_about 124 = some (125, [], .iload 1) := by decide +kernel
theorem eX9_about_125 : mn_dec cX9_about 125 = some (126, [], .iaload) := by decide +kernel
theorem eX9_about_126 : mn_dec cX9_about 126 = some (129, [155], .if_icmp .ge 29) := by decide +kernel
theorem eX9_about_129 : mn_dec cX9_about 129 = some (130, [], .iload 3) := by decide +kernel
theorem eX9_about_130 : mn_dec cX9_about 130 = some (131, [], .aload 0) := by decide +kernel
theorem eX9_about_131 : mn_dec cX9_about 131 = some (134, [], .getfield 30) := by decide +kernel
theorem eX9_about_134 : mn_dec cX9_about 134 = some (136, [], .iload 4) := by decide +kernel
theorem eX9_about_136 : mn_dec cX9_about 136 = some (137, [], .iaload) := by decide +kernel
theorem eX9_about_137 : mn_dec cX9_about 137 = some (139, [], .iload 4) := by decide +kernel
theorem eX9_about_139 : mn_dec cX9_about 139 = some (142, [146], .if_icmp .ne 7) := by decide +kernel
theorem eX9_about_142 : mn_dec cX9_about 142 = some (143, [], .iconst 1) := by decide +kernel
theorem eX9_about_143 : mn_dec cX9_about 143 = some (146, [147], .goto 4) := by decide +kernel
theorem eX9_about_146 : mn_dec cX9_about 146 = some (147, [], .iconst 0) := by decide +kernel
theorem eX9_about_147 : mn_dec cX9_about 147 = some (148, [], .iadd) := by decide +kernel
theorem eX9_about_148 : mn_dec cX9_about 148 = some (149, [], .istore 3) := by decide +kernel
theorem eX9_about_149 : mn_dec cX9_about 149 = some (152, [], .iinc 4 1) := by decide +kernel
theorem eX9_about_152 : mn_dec cX9_about 152 = some (155, [118], .goto (-34)) := by decide +kernel
theorem eX9_about_155 : mn_dec cX9_about 155 = some (156, [], .iload 3) := by decide +kernel
theorem eX9_about_156 : mn_dec cX9_about 156 = some (157, [], .ireturn) := by decide +kernel
theorem eX9_about_157 : mn_dec cX9_about 157 = some (159, [], .iconst (-2)) := by decide +kernel
theorem eX9_about_159 : mn_dec cX9_about 159 = some (160, [], .ireturn) := by decide +kernel
theorem eX9_spreadOf_0 : mn_dec cX9_spreadOf 0 = some (3, [], .iconst 1000) := by decide +kernel
theorem eX9_spreadOf_3 : mn_dec cX9_spreadOf 3 = some (4, [], .istore 2) := by decide +kernel
theorem eX9_spreadOf_4 : mn_dec cX9_spreadOf 4 = some (5, [], .iconst 0) := by decide +kernel
theorem eX9_spreadOf_5 : mn_dec cX9_spreadOf 5 = some (6, [], .istore 3) := by decide +kernel
theorem eX9_spreadOf_6 : mn_dec cX9_spreadOf 6 = some (7, [], .iconst 0) := by decide +kernel
theorem eX9_spreadOf_7 : mn_dec cX9_spreadOf 7 = some (9, [], .istore 4) := by decide +kernel
theorem eX9_spreadOf_9 : mn_dec cX9_spreadOf 9 = some (11, [], .iload 4) := by decide +kernel
theorem eX9_spreadOf_11 : mn_dec cX9_spreadOf 11 = some (12, [], .iload 1) := by decide +kernel
theorem eX9_spreadOf_12 : mn_dec cX9_spreadOf 12 = some (15, [67], .if_icmp .ge 55) := by decide +kernel
theorem eX9_spreadOf_15 : mn_dec cX9_spreadOf 15 = some (16, [], .aload 0) := by decide +kernel
theorem eX9_spreadOf_16 : mn_dec cX9_spreadOf 16 = some (19, [], .getfield 7) := by decide +kernel
theorem eX9_spreadOf_19 : mn_dec cX9_spreadOf 19 = some (21, [], .iload 4) := by decide +kernel
theorem eX9_spreadOf_21 : mn_dec cX9_spreadOf 21 = some (22, [], .iaload) := by decide +kernel
theorem eX9_spreadOf_22 : mn_dec cX9_spreadOf 22 = some (23, [], .iload 2) := by decide +kernel
theorem eX9_spreadOf_23 : mn_dec cX9_spreadOf 23 = some (26, [36], .if_icmp .ge 13) := by decide +kernel
theorem eX9_spreadOf_26 : mn_dec cX9_spreadOf 26 = some (27, [], .aload 0) := by decide +kernel
theorem eX9_spreadOf_27 : mn_dec cX9_spreadOf 27 = some (30, [], .getfield 7) := by decide +kernel
theorem eX9_spreadOf_30 : mn_dec cX9_spreadOf 30 = some (32, [], .iload 4) := by decide +kernel
theorem eX9_spreadOf_32 : mn_dec cX9_spreadOf 32 = some (33, [], .iaload) := by decide +kernel
theorem eX9_spreadOf_33 : mn_dec cX9_spreadOf 33 = some (36, [37], .goto 4) := by decide +kernel
theorem eX9_spreadOf_36 : mn_dec cX9_spreadOf 36 = some (37, [], .iload 2) := by decide +kernel
theorem eX9_spreadOf_37 : mn_dec cX9_spreadOf 37 = some (38, [], .istore 2) := by decide +kernel
theorem eX9_spreadOf_38 : mn_dec cX9_spreadOf 38 = some (39, [], .aload 0) := by decide +kernel
theorem eX9_spreadOf_39 : mn_dec cX9_spreadOf 39 = some (42, [], .getfield 7) := by decide +kernel
theorem eX9_spreadOf_42 : mn_dec cX9_spreadOf 42 = some (44, [], .iload 4) := by decide +kernel
theorem eX9_spreadOf_44 : mn_dec cX9_spreadOf 44 = some (45, [], .iaload) := by decide +kernel
theorem eX9_spreadOf_45 : mn_dec cX9_spreadOf 45 = some (46, [], .iload 3) := by decide +kernel
theorem eX9_spreadOf_46 : mn_dec cX9_spreadOf 46 = some (49, [59], .if_icmp .le 13) := by decide +kernel
theorem eX9_spreadOf_49 : mn_dec cX9_spreadOf 49 = some (50, [], .aload 0) := by decide +kernel
theorem eX9_spreadOf_50 : mn_dec cX9_spreadOf 50 = some (53, [], .getfield 7) := by decide +kernel
theorem eX9_spreadOf_53 : mn_dec cX9_spreadOf 53 = some (55, [], .iload 4) := by decide +kernel
theorem eX9_spreadOf_55 : mn_dec cX9_spreadOf 55 = some (56, [], .iaload) := by decide +kernel
theorem eX9_spreadOf_56 : mn_dec cX9_spreadOf 56 = some (59, [60], .goto 4) := by decide +kernel
theorem eX9_spreadOf_59 : mn_dec cX9_spreadOf 59 = some (60, [], .iload 3) := by decide +kernel
theorem eX9_spreadOf_60 : mn_dec cX9_spreadOf 60 = some (61, [], .istore 3) := by decide +kernel
theorem eX9_spreadOf_61 : mn_dec cX9_spreadOf 61 = some (64, [], .iinc 4 1) := by decide +kernel
theorem eX9_spreadOf_64 : mn_dec cX9_spreadOf 64 = some (67, [9], .goto (-55)) := by decide +kernel
theorem eX9_spreadOf_67 : mn_dec cX9_spreadOf 67 = some (68, [], .iload 1) := by decide +kernel
theorem eX9_spreadOf_68 : mn_dec cX9_spreadOf 68 = some (71, [75], .ifCond .ne 7) := by decide +kernel
theorem eX9_spreadOf_71 : mn_dec cX9_spreadOf 71 = some (72, [], .iconst 0) := by decide +kernel
theorem eX9_spreadOf_72 : mn_dec cX9_spreadOf 72 = some (75, [78], .goto 6) := by decide +kernel
theorem eX9_spreadOf_75 : mn_dec cX9_spreadOf 75 = some (76, [], .iload 3) := by decide +kernel
theorem eX9_spreadOf_76 : mn_dec cX9_spreadOf 76 = some (77, [], .iload 2) := by decide +kernel
theorem eX9_spreadOf_77 : mn_dec cX9_spreadOf 77 = some (78, [], .isub) := by decide +kernel
theorem eX9_spreadOf_78 : mn_dec cX9_spreadOf 78 = some (79, [], .ireturn) := by decide +kernel
theorem eX9_told_0 : mn_dec cX9_told 0 = some (1, [], .iconst 0) := by decide +kernel
theorem eX9_told_1 : mn_dec cX9_told 1 = some (2, [], .istore 2) := by decide +kernel
theorem eX9_told_2 : mn_dec cX9_told 2 = some (3, [], .iload 1) := by decide +kernel
theorem eX9_told_3 : mn_dec cX9_told 3 = some (44, [183, 44, 49, 54, 59, 68, 121, 148], .tableswitch 180 0 6 #[41, 46, 51, 56, 65, 118, 145]) := by decide +kernel
theorem eX9_told_44 : mn_dec cX9_told 44 = some (45, [], .aload 0) := by decide +kernel
theorem eX9_told_45 : mn_dec cX9_told 45 = some (48, [], .getfield 58) := by decide +kernel
theorem eX9_told_48 : mn_dec cX9_told 48 = some (49, [], .ireturn) := by decide +kernel
theorem eX9_told_49 : mn_dec cX9_told 49 = some (50, [], .aload 0) := by decide +kernel
theorem eX9_told_50 : mn_dec cX9_told 50 = some (53, [], .getfield 20) := by decide +kernel
theorem eX9_told_53 : mn_dec cX9_told 53 = some (54, [], .ireturn) := by decide +kernel
theorem eX9_told_54 : mn_dec cX9_told 54 = some (55, [], .aload 0) := by decide +kernel
theorem eX9_told_55 : mn_dec cX9_told 55 = some (58, [], .invokevirtual 95) := by decide +kernel
theorem eX9_told_58 : mn_dec cX9_told 58 = some (59, [], .ireturn) := by decide +kernel
theorem eX9_told_59 : mn_dec cX9_told 59 = some (60, [], .aload 0) := by decide +kernel
theorem eX9_told_60 : mn_dec cX9_told 60 = some (61, [], .aload 0) := by decide +kernel
theorem eX9_told_61 : mn_dec cX9_told 61 = some (64, [], .getfield 58) := by decide +kernel
theorem eX9_told_64 : mn_dec cX9_told 64 = some (67, [], .invokevirtual 98) := by decide +kernel
theorem eX9_told_67 : mn_dec cX9_told 67 = some (68, [], .ireturn) := by decide +kernel
theorem eX9_told_68 : mn_dec cX9_told 68 = some (69, [], .iconst 0) := by decide +kernel
theorem eX9_told_69 : mn_dec cX9_told 69 = some (70, [], .istore 3) := by decide +kernel
theorem eX9_told_70 : mn_dec cX9_told 70 = some (71, [], .iload 3) := by decide +kernel
theorem eX9_told_71 : mn_dec cX9_told 71 = some (72, [], .aload 0) := by decide +kernel
theorem eX9_told_72 : mn_dec cX9_told 72 = some (75, [], .getfield 58) := by decide +kernel
theorem eX9_told_75 : mn_dec cX9_told 75 = some (78, [119], .if_icmp .ge 44) := by decide +kernel
theorem eX9_told_78 : mn_dec cX9_told 78 = some (79, [], .iconst 0) := by decide +kernel
theorem eX9_told_79 : mn_dec cX9_told 79 = some (81, [], .istore 4) := by decide +kernel
theorem eX9_told_81 : mn_dec cX9_told 81 = some (83, [], .iload 4) := by decide +kernel
theorem eX9_told_83 : mn_dec cX9_told 83 = some (84, [], .iload 3) := by decide +kernel
theorem eX9_told_84 : mn_dec cX9_told 84 = some (87, [113], .if_icmp .ge 29) := by decide +kernel
theorem eX9_told_87 : mn_dec cX9_told 87 = some (88, [], .iload 2) := by decide +kernel
theorem eX9_told_88 : mn_dec cX9_told 88 = some (89, [], .aload 0) := by decide +kernel
theorem eX9_told_89 : mn_dec cX9_told 89 = some (92, [], .getfield 7) := by decide +kernel
theorem eX9_told_92 : mn_dec cX9_told 92 = some (93, [], .iload 3) := by decide +kernel
theorem eX9_told_93 : mn_dec cX9_told 93 = some (94, [], .iaload) := by decide +kernel
theorem eX9_told_94 : mn_dec cX9_told 94 = some (95, [], .aload 0) := by decide +kernel
theorem eX9_told_95 : mn_dec cX9_told 95 = some (98, [], .getfield 7) := by decide +kernel
theorem eX9_told_98 : mn_dec cX9_told 98 = some (100, [], .iload 4) := by decide +kernel
theorem eX9_told_100 : mn_dec cX9_told 100 = some (101, [], .iaload) := by decide +kernel
theorem eX9_told_101 : mn_dec cX9_told 101 = some (102, [], .isub) := by decide +kernel
theorem eX9_told_102 : mn_dec cX9_told 102 = some (105, [], .invokestatic 77) := by decide +kernel
theorem eX9_told_105 : mn_dec cX9_told 105 = some (106, [], .iadd) := by decide +kernel
theorem eX9_told_106 : mn_dec cX9_told 106 = some (107, [], .istore 2) := by decide +kernel
theorem eX9_told_107 : mn_dec cX9_told 107 = some (110, [], .iinc 4 1) := by decide +kernel
theorem eX9_told_110 : mn_dec cX9_told 110 = some (113, [81], .goto (-29)) := by decide +kernel
theorem eX9_told_113 : mn_dec cX9_told 113 = some (116, [], .iinc 3 1) := by decide +kernel
theorem eX9_told_116 : mn_dec cX9_told 116 = some (119, [70], .goto (-46)) := by decide +kernel
theorem eX9_told_119 : mn_dec cX9_told 119 = some (120, [], .iload 2) := by decide +kernel
theorem eX9_told_120 : mn_dec cX9_told 120 = some (121, [], .ireturn) := by decide +kernel
theorem eX9_told_121 : mn_dec cX9_told 121 = some (122, [], .iconst 0) := by decide +kernel
theorem eX9_told_122 : mn_dec cX9_told 122 = some (123, [], .istore 3) := by decide +kernel
theorem eX9_told_123 : mn_dec cX9_told 123 = some (124, [], .iload 3) := by decide +kernel
theorem eX9_told_124 : mn_dec cX9_told 124 = some (125, [], .aload 0) := by decide +kernel
theorem eX9_told_125 : mn_dec cX9_told 125 = some (128, [], .getfield 58) := by decide +kernel
theorem eX9_told_128 : mn_dec cX9_told 128 = some (131, [146], .if_icmp .ge 18) := by decide +kernel
theorem eX9_told_131 : mn_dec cX9_told 131 = some (132, [], .iload 2) := by decide +kernel
theorem eX9_told_132 : mn_dec cX9_told 132 = some (133, [], .aload 0) := by decide +kernel
theorem eX9_told_133 : mn_dec cX9_told 133 = some (136, [], .getfield 7) := by decide +kernel
theorem eX9_told_136 : mn_dec cX9_told 136 = some (137, [], .iload 3) := by decide +kernel
theorem eX9_told_137 : mn_dec cX9_told 137 = some (138, [], .iaload) := by decide +kernel
theorem eX9_told_138 : mn_dec cX9_told 138 = some (139, [], .iadd) := by decide +kernel
theorem eX9_told_139 : mn_dec cX9_told 139 = some (140, [], .istore 2) := by decide +kernel
theorem eX9_told_140 : mn_dec cX9_told 140 = some (143, [], .iinc 3 1) := by decide +kernel
theorem eX9_told_143 : mn_dec cX9_told 143 = some (146, [123], .goto (-20)) := by decide +kernel
theorem eX9_told_146 : mn_dec cX9_told 146 = some (147, [], .iload 2) := by decide +kernel
theorem eX9_told_147 : mn_dec cX9_told 147 = some (148, [], .ireturn) := by decide +kernel
theorem eX9_told_148 : mn_dec cX9_told 148 = some (149, [], .iconst 0) := by decide +kernel
theorem eX9_told_149 : mn_dec cX9_told 149 = some (150, [], .istore 3) := by decide +kernel
theorem eX9_told_150 : mn_dec cX9_told 150 = some (151, [], .iload 3) := by decide +kernel
theorem eX9_told_151 : mn_dec cX9_told 151 = some (152, [], .aload 0) := by decide +kernel
theorem eX9_told_152 : mn_dec cX9_told 152 = some (155, [], .getfield 58) := by decide +kernel
theorem eX9_told_155 : mn_dec cX9_told 155 = some (158, [181], .if_icmp .ge 26) := by decide +kernel
theorem eX9_told_158 : mn_dec cX9_told 158 = some (159, [], .iload 2) := by decide +kernel
theorem eX9_told_159 : mn_dec cX9_told 159 = some (160, [], .aload 0) := by decide +kernel
theorem eX9_told_160 : mn_dec cX9_told 160 = some (163, [], .getfield 13) := by decide +kernel
theorem eX9_told_163 : mn_dec cX9_told 163 = some (164, [], .iload 3) := by decide +kernel
theorem eX9_told_164 : mn_dec cX9_told 164 = some (165, [], .baload) := by decide +kernel
theorem eX9_told_165 : mn_dec cX9_told 165 = some (168, [172], .ifCond .eq 7) := by decide +kernel
theorem eX9_told_168 : mn_dec cX9_told 168 = some (169, [], .iconst 1) := by decide +kernel
theorem eX9_told_169 : mn_dec cX9_told 169 = some (172, [173], .goto 4) := by decide +kernel
theorem eX9_told_172 : mn_dec cX9_told 172 = some (173, [], .iconst 0) := by decide +kernel
theorem eX9_told_173 : mn_dec cX9_told 173 = some (174, [], .iadd) := by decide +kernel
theorem eX9_told_174 : mn_dec cX9_told 174 = some (175, [], .istore 2) := by decide +kernel
theorem eX9_told_175 : mn_dec cX9_told 175 = some (178, [], .iinc 3 1) := by decide +kernel
theorem eX9_told_178 : mn_dec cX9_told 178 = some (181, [150], .goto (-28)) := by decide +kernel
theorem eX9_told_181 : mn_dec cX9_told 181 = some (182, [], .iload 2) := by decide +kernel
theorem eX9_told_182 : mn_dec cX9_told 182 = some (183, [], .ireturn) := by decide +kernel
theorem eX9_told_183 : mn_dec cX9_told 183 = some (185, [], .iconst (-2)) := by decide +kernel
theorem eX9_told_185 : mn_dec cX9_told 185 = some (186, [], .ireturn) := by decide +kernel
theorem eX9_keep_0 : mn_dec cX9_keep 0 = some (1, [], .iconst 0) := by decide +kernel
theorem eX9_keep_1 : mn_dec cX9_keep 1 = some (2, [], .istore 1) := by decide +kernel
theorem eX9_keep_2 : mn_dec cX9_keep 2 = some (3, [], .iload 1) := by decide +kernel
theorem eX9_keep_3 : mn_dec cX9_keep 3 = some (4, [], .aload 0) := by decide +kernel
theorem eX9_keep_4 : mn_dec cX9_keep 4 = some (7, [], .getfield 58) := by decide +kernel
theorem eX9_keep_7 : mn_dec cX9_keep 7 = some (10, [28], .if_icmp .ge 21) := by decide +kernel
theorem eX9_keep_10 : mn_dec cX9_keep 10 = some (11, [], .aload 0) := by decide +kernel
theorem eX9_keep_11 : mn_dec cX9_keep 11 = some (14, [], .getfield 24) := by decide +kernel
theorem eX9_keep_14 : mn_dec cX9_keep 14 = some (15, [], .iload 1) := by decide +kernel
theorem eX9_keep_15 : mn_dec cX9_keep 15 = some (16, [], .aload 0) := by decide +kernel
theorem eX9_keep_16 : mn_dec cX9_keep 16 = some (19, [], .getfield 7) := by decide +kernel
theorem eX9_keep_19 : mn_dec cX9_keep 19 = some (20, [], .iload 1) := by decide +kernel
theorem eX9_keep_20 : mn_dec cX9_keep 20 = some (21, [], .iaload) := by decide +kernel
theorem eX9_keep_21 : mn_dec cX9_keep 21 = some (22, [], .iastore) := by decide +kernel
theorem eX9_keep_22 : mn_dec cX9_keep 22 = some (25, [], .iinc 1 1) := by decide +kernel
theorem eX9_keep_25 : mn_dec cX9_keep 25 = some (28, [2], .goto (-23)) := by decide +kernel
theorem eX9_keep_28 : mn_dec cX9_keep 28 = some (29, [], .aload 0) := by decide +kernel
theorem eX9_keep_29 : mn_dec cX9_keep 29 = some (30, [], .aload 0) := by decide +kernel
theorem eX9_keep_30 : mn_dec cX9_keep 30 = some (33, [], .getfield 58) := by decide +kernel
theorem eX9_keep_33 : mn_dec cX9_keep 33 = some (36, [], .putfield 101) := by decide +kernel
theorem eX9_keep_36 : mn_dec cX9_keep 36 = some (37, [], .aload 0) := by decide +kernel
theorem eX9_keep_37 : mn_dec cX9_keep 37 = some (38, [], .iconst 1) := by decide +kernel
theorem eX9_keep_38 : mn_dec cX9_keep 38 = some (41, [], .putfield 104) := by decide +kernel
theorem eX9_keep_41 : mn_dec cX9_keep 41 = some (42, [], .aload 0) := by decide +kernel
theorem eX9_keep_42 : mn_dec cX9_keep 42 = some (45, [], .getfield 58) := by decide +kernel
theorem eX9_keep_45 : mn_dec cX9_keep 45 = some (46, [], .ireturn) := by decide +kernel
theorem eX9_back_0 : mn_dec cX9_back 0 = some (1, [], .aload 0) := by decide +kernel
theorem eX9_back_1 : mn_dec cX9_back 1 = some (4, [], .getfield 104) := by decide +kernel
theorem eX9_back_4 : mn_dec cX9_back 4 = some (7, [10], .ifCond .ne 6) := by decide +kernel
theorem eX9_back_7 : mn_dec cX9_back 7 = some (9, [], .iconst (-3)) := by decide +kernel
theorem eX9_back_9 : mn_dec cX9_back 9 = some (10, [], .ireturn) := by decide +kernel
theorem eX9_back_10 : mn_dec cX9_back 10 = some (11, [], .iconst 0) := by decide +kernel
theorem eX9_back_11 : mn_dec cX9_back 11 = some (12, [], .istore 1) := by decide +kernel
theorem eX9_back_12 : mn_dec cX9_back 12 = some (13, [], .iload 1) := by decide +kernel
theorem eX9_back_13 : mn_dec cX9_back 13 = some (14, [], .aload 0) := by decide +kernel
theorem eX9_back_14 : mn_dec cX9_back 14 = some (17, [], .getfield 101) := by decide +kernel
theorem eX9_back_17 : mn_dec cX9_back 17 = some (20, [38], .if_icmp .ge 21) := by decide +kernel
theorem eX9_back_20 : mn_dec cX9_back 20 = some (21, [], .aload 0) := by decide +kernel
theorem eX9_back_21 : mn_dec cX9_back 21 = some (24, [], .getfield 7) := by decide +kernel
theorem eX9_back_24 : mn_dec cX9_back 24 = some (25, [], .iload 1) := by decide +kernel
theorem eX9_back_25 : mn_dec cX9_back 25 = some (26, [], .aload 0) := by decide +kernel
theorem eX9_back_26 : mn_dec cX9_back 26 = some (29, [], .getfield 24) := by decide +kernel
theorem eX9_back_29 : mn_dec cX9_back 29 = some (30, [], .iload 1) := by decide +kernel
theorem eX9_back_30 : mn_dec cX9_back 30 = some (31, [], .iaload) := by decide +kernel
theorem eX9_back_31 : mn_dec cX9_back 31 = some (32, [], .iastore) := by decide +kernel
theorem eX9_back_32 : mn_dec cX9_back 32 = some (35, [], .iinc 1 1) := by decide +kernel
theorem eX9_back_35 : mn_dec cX9_back 35 = some (38, [12], .goto (-23)) := by decide +kernel
theorem eX9_back_38 : mn_dec cX9_back 38 = some (39, [], .aload 0) := by decide +kernel
theorem eX9_back_39 : mn_dec cX9_back 39 = some (42, [], .getfield 101) := by decide +kernel
theorem eX9_back_42 : mn_dec cX9_back 42 = some (43, [], .ireturn) := by decide +kernel
theorem eX9_width_0 : mn_dec cX9_width 0 = some (1, [], .iload 1) := by decide +kernel
theorem eX9_width_1 : mn_dec cX9_width 1 = some (2, [], .i2l) := by decide +kernel
theorem eX9_width_2 : mn_dec cX9_width 2 = some (3, [], .lconst 0) := by decide +kernel
theorem eX9_width_3 : mn_dec cX9_width 3 = some (6, [], .ldc2_w 65) := by decide +kernel
theorem eX9_width_6 : mn_dec cX9_width 6 = some (9, [], .invokestatic 61) := by decide +kernel
theorem eX9_width_9 : mn_dec cX9_width 9 = some (12, [51], .ifCond .eq 42) := by decide +kernel
theorem eX9_width_12 : mn_dec cX9_width 12 = some (13, [], .iload 2) := by decide +kernel
theorem eX9_width_13 : mn_dec cX9_width 13 = some (14, [], .i2l) := by decide +kernel
theorem eX9_width_14 : mn_dec cX9_width 14 = some (15, [], .lconst 0) := by decide +kernel
theorem eX9_width_15 : mn_dec cX9_width 15 = some (18, [], .ldc2_w 65) := by decide +kernel
theorem eX9_width_18 : mn_dec cX9_width 18 = some (21, [], .invokestatic 61) := by decide +kernel
theorem eX9_width_21 : mn_dec cX9_width 21 = some (24, [51], .ifCond .eq 30) := by decide +kernel
theorem eX9_width_24 : mn_dec cX9_width 24 = some (25, [], .iload 2) := by decide +kernel
theorem eX9_width_25 : mn_dec cX9_width 25 = some (26, [], .i2l) := by decide +kernel
theorem eX9_width_26 : mn_dec cX9_width 26 = some (27, [], .iload 1) := by decide +kernel
theorem eX9_width_27 : mn_dec cX9_width 27 = some (28, [], .i2l) := by decide +kernel
theorem eX9_width_28 : mn_dec cX9_width 28 = some (29, [], .iload 1) := by decide +kernel
theorem eX9_width_29 : mn_dec cX9_width 29 = some (31, [], .iconst 30) := by decide +kernel
theorem eX9_width_31 : mn_dec cX9_width 31 = some (32, [], .iadd) := by decide +kernel
theorem eX9_width_32 : mn_dec cX9_width 32 = some (33, [], .i2l) := by decide +kernel
theorem eX9_width_33 : mn_dec cX9_width 33 = some (36, [], .invokestatic 61) := by decide +kernel
theorem eX9_width_36 : mn_dec cX9_width 36 = some (39, [51], .ifCond .eq 15) := by decide +kernel
theorem eX9_width_39 : mn_dec cX9_width 39 = some (40, [], .iload 3) := by decide +kernel
theorem eX9_width_40 : mn_dec cX9_width 40 = some (41, [], .i2l) := by decide +kernel
theorem eX9_width_41 : mn_dec cX9_width 41 = some (42, [], .lconst 1) := by decide +kernel
theorem eX9_width_42 : mn_dec cX9_width 42 = some (45, [], .ldc2_w 108) := by decide +kernel
theorem eX9_width_45 : mn_dec cX9_width 45 = some (48, [], .invokestatic 61) := by decide +kernel
theorem eX9_width_48 : mn_dec cX9_width 48 = some (51, [54], .ifCond .ne 6) := by decide +kernel
theorem eX9_width_51 : mn_dec cX9_width 51 = some (53, [], .iconst (-2)) := by decide +kernel
theorem eX9_width_53 : mn_dec cX9_width 53 = some (54, [], .ireturn) := by decide +kernel
theorem eX9_width_54 : mn_dec cX9_width 54 = some (55, [], .aload 0) := by decide +kernel
theorem eX9_width_55 : mn_dec cX9_width 55 = some (58, [], .getfield 20) := by decide +kernel
theorem eX9_width_58 : mn_dec cX9_width 58 = some (60, [], .istore 4) := by decide +kernel
theorem eX9_width_60 : mn_dec cX9_width 60 = some (61, [], .iconst 0) := by decide +kernel
theorem eX9_width_61 : mn_dec cX9_width 61 = some (63, [], .istore 5) := by decide +kernel
theorem eX9_width_63 : mn_dec cX9_width 63 = some (65, [], .iload 5) := by decide +kernel
theorem eX9_width_65 : mn_dec cX9_width 65 = some (66, [], .aload 0) := by decide +kernel
theorem eX9_width_66 : mn_dec cX9_width 66 = some (69, [], .getfield 58) := by decide +kernel
theorem eX9_width_69 : mn_dec cX9_width 69 = some (72, [92], .if_icmp .ge 23) := by decide +kernel
theorem eX9_width_72 : mn_dec cX9_width 72 = some (73, [], .aload 0) := by decide +kernel
theorem eX9_width_73 : mn_dec cX9_width 73 = some (76, [], .getfield 33) := by decide +kernel
theorem eX9_width_76 : mn_dec cX9_width 76 = some (78, [], .iload 5) := by decide +kernel
theorem eX9_width_78 : mn_dec cX9_width 78 = some (79, [], .aload 0) := by decide +kernel
theorem eX9_width_79 : mn_dec cX9_width 79 = some (82, [], .getfield 7) := by decide +kernel
theorem eX9_width_82 : mn_dec cX9_width 82 = some (84, [], .iload 5) := by decide +kernel
theorem eX9_width_84 : mn_dec cX9_width 84 = some (85, [], .iaload) := by decide +kernel
theorem eX9_width_85 : mn_dec cX9_width 85 = some (86, [], .iastore) := by decide +kernel
theorem eX9_width_86 : mn_dec cX9_width 86 = some (89, [], .iinc 5 1) := by decide +kernel
theorem eX9_width_89 : mn_dec cX9_width 89 = some (92, [63], .goto (-26)) := by decide +kernel
theorem eX9_width_92 : mn_dec cX9_width 92 = some (94, [], .iconst (-6)) := by decide +kernel
theorem eX9_width_94 : mn_dec cX9_width 94 = some (96, [], .istore 5) := by decide +kernel
theorem eX9_width_96 : mn_dec cX9_width 96 = some (97, [], .iload 1) := by decide +kernel
theorem eX9_width_97 : mn_dec cX9_width 97 = some (99, [], .istore 6) := by decide +kernel
theorem eX9_width_99 : mn_dec cX9_width 99 = some (101, [], .iload 6) := by decide +kernel
theorem eX9_width_101 : mn_dec cX9_width 101 = some (102, [], .iload 2) := by decide +kernel
theorem eX9_width_102 : mn_dec cX9_width 102 = some (105, [182], .if_icmp .gt 80) := by decide +kernel
theorem eX9_width_105 : mn_dec cX9_width 105 = some (107, [], .iload 5) := by decide +kernel
theorem eX9_width_107 : mn_dec cX9_width 107 = some (110, [182], .ifCond .ge 75) := by decide +kernel
theorem eX9_width_110 : mn_dec cX9_width 110 = some (111, [], .aload 0) := by decide +kernel
theorem eX9_width_111 : mn_dec cX9_width 111 = some (113, [], .iload 6) := by decide +kernel
theorem eX9_width_113 : mn_dec cX9_width 113 = some (116, [], .putfield 20) := by decide +kernel
theorem eX9_width_116 : mn_dec cX9_width 116 = some (117, [], .aload 0) := by decide +kernel
theorem eX9_width_117 : mn_dec cX9_width 117 = some (120, [], .invokevirtual 91) := by decide +kernel
theorem eX9_width_120 : mn_dec cX9_width 120 = some (122, [], .istore 7) := by decide +kernel
theorem eX9_width_122 : mn_dec cX9_width 122 = some (124, [], .iload 7) := by decide +kernel
theorem eX9_width_124 : mn_dec cX9_width 124 = some (127, [140], .ifCond .le 16) := by decide +kernel
theorem eX9_width_127 : mn_dec cX9_width 127 = some (128, [], .aload 0) := by decide +kernel
theorem eX9_width_128 : mn_dec cX9_width 128 = some (131, [], .invokevirtual 95) := by decide +kernel
theorem eX9_width_131 : mn_dec cX9_width 131 = some (132, [], .iload 3) := by decide +kernel
theorem eX9_width_132 : mn_dec cX9_width 132 = some (135, [140], .if_icmp .gt 8) := by decide +kernel
theorem eX9_width_135 : mn_dec cX9_width 135 = some (137, [], .iload 6) := by decide +kernel
theorem eX9_width_137 : mn_dec cX9_width 137 = some (140, [142], .goto 5) := by decide +kernel
theorem eX9_width_140 : mn_dec cX9_width 140 = some (142, [], .iconst (-6)) := by decide +kernel
theorem eX9_width_142 : mn_dec cX9_width 142 = some (144, [], .istore 5) := by decide +kernel
theorem eX9_width_144 : mn_dec cX9_width 144 = some (145, [], .iconst 0) := by decide +kernel
theorem eX9_width_145 : mn_dec cX9_width 145 = some (147, [], .istore 8) := by decide +kernel
theorem eX9_width_147 : mn_dec cX9_width 147 = some (149, [], .iload 8) := by decide +kernel
theorem eX9_width_149 : mn_dec cX9_width 149 = some (150, [], .aload 0) := by decide +kernel
theorem eX9_width_150 : mn_dec cX9_width 150 = some (153, [], .getfield 58) := by decide +kernel
theorem eX9_width_153 : mn_dec cX9_width 153 = some (156, [176], .if_icmp .ge 23) := by decide +kernel
theorem eX9_width_156 : mn_dec cX9_width 156 = some (157, [], .aload 0) := by decide +kernel
theorem eX9_width_157 : mn_dec cX9_width 157 = some (160, [], .getfield 7) := by decide +kernel
theorem eX9_width_160 : mn_dec cX9_width 160 = some (162, [], .iload 8) := by decide +kernel
theorem eX9_width_162 : mn_dec cX9_width 162 = some (163, [], .aload 0) := by decide +kernel
theorem eX9_width_163 : mn_dec cX9_width 163 = some (166, [], .getfield 33) := by decide +kernel
theorem eX9_width_166 : mn_dec cX9_width 166 = some (168, [], .iload 8) := by decide +kernel
theorem eX9_width_168 : mn_dec cX9_width 168 = some (169, [], .iaload) := by decide +kernel
theorem eX9_width_169 : mn_dec cX9_width 169 = some (170, [], .iastore) := by decide +kernel
theorem eX9_width_170 : mn_dec cX9_width 170 = some (173, [], .iinc 8 1) := by decide +kernel
theorem eX9_width_173 : mn_dec cX9_width 173 = some (176, [147], .goto (-26)) := by decide +kernel
theorem eX9_width_176 : mn_dec cX9_width 176 = some (179, [], .iinc 6 1) := by decide +kernel
theorem eX9_width_179 : mn_dec cX9_width 179 = some (182, [99], .goto (-80)) := by decide +kernel
theorem eX9_width_182 : mn_dec cX9_width 182 = some (183, [], .aload 0) := by decide +kernel
theorem eX9_width_183 : mn_dec cX9_width 183 = some (185, [], .iload 4) := by decide +kernel
theorem eX9_width_185 : mn_dec cX9_width 185 = some (188, [], .putfield 20) := by decide +kernel
theorem eX9_width_188 : mn_dec cX9_width 188 = some (190, [], .iload 5) := by decide +kernel
theorem eX9_width_190 : mn_dec cX9_width 190 = some (191, [], .ireturn) := by decide +kernel
theorem eX9_findLed_0 : mn_dec cX9_findLed 0 = some (1, [], .iconst 0) := by decide +kernel
theorem eX9_findLed_1 : mn_dec cX9_findLed 1 = some (2, [], .istore 2) := by decide +kernel
theorem eX9_findLed_2 : mn_dec cX9_findLed 2 = some (3, [], .iload 2) := by decide +kernel
theorem eX9_findLed_3 : mn_dec cX9_findLed 3 = some (4, [], .aload 0) := by decide +kernel
theorem eX9_findLed_4 : mn_dec cX9_findLed 4 = some (7, [], .getfield 58) := by decide +kernel
theorem eX9_findLed_7 : mn_dec cX9_findLed 7 = some (10, [36], .if_icmp .ge 29) := by decide +kernel
theorem eX9_findLed_10 : mn_dec cX9_findLed 10 = some (11, [], .aload 0) := by decide +kernel
theorem eX9_findLed_11 : mn_dec cX9_findLed 11 = some (14, [], .getfield 36) := by decide +kernel
theorem eX9_findLed_14 : mn_dec cX9_findLed 14 = some (15, [], .iload 2) := by decide +kernel
theorem eX9_findLed_15 : mn_dec cX9_findLed 15 = some (16, [], .aload 0) := by decide +kernel
theorem eX9_findLed_16 : mn_dec cX9_findLed 16 = some (17, [], .iload 2) := by decide +kernel
theorem eX9_findLed_17 : mn_dec cX9_findLed 17 = some (18, [], .iload 1) := by decide +kernel
theorem eX9_findLed_18 : mn_dec cX9_findLed 18 = some (21, [], .invokevirtual 73) := by decide +kernel
theorem eX9_findLed_21 : mn_dec cX9_findLed 21 = some (24, [28], .ifCond .le 7) := by decide +kernel
theorem eX9_findLed_24 : mn_dec cX9_findLed 24 = some (25, [], .iconst 1) := by decide +kernel
theorem eX9_findLed_25 : mn_dec cX9_findLed 25 = some (28, [29], .goto 4) := by decide +kernel
theorem eX9_findLed_28 : mn_dec cX9_findLed 28 = some (29, [], .iconst 0) := by decide +kernel
theorem eX9_findLed_29 : mn_dec cX9_findLed 29 = some (30, [], .bastore) := by decide +kernel
theorem eX9_findLed_30 : mn_dec cX9_findLed 30 = some (33, [], .iinc 2 1) := by decide +kernel
theorem eX9_findLed_33 : mn_dec cX9_findLed 33 = some (36, [2], .goto (-31)) := by decide +kernel
theorem eX9_findLed_36 : mn_dec cX9_findLed 36 = some (37, [], .iconst 1) := by decide +kernel
theorem eX9_findLed_37 : mn_dec cX9_findLed 37 = some (38, [], .istore 2) := by decide +kernel
theorem eX9_findLed_38 : mn_dec cX9_findLed 38 = some (39, [], .iload 2) := by decide +kernel
theorem eX9_findLed_39 : mn_dec cX9_findLed 39 = some (42, [120], .ifCond .eq 81) := by decide +kernel
theorem eX9_findLed_42 : mn_dec cX9_findLed 42 = some (43, [], .iconst 0) := by decide +kernel
theorem eX9_findLed_43 : mn_dec cX9_findLed 43 = some (44, [], .istore 2) := by decide +kernel
theorem eX9_findLed_44 : mn_dec cX9_findLed 44 = some (45, [], .iconst 0) := by decide +kernel
theorem eX9_findLed_45 : mn_dec cX9_findLed 45 = some (46, [], .istore 3) := by decide +kernel
theorem eX9_findLed_46 : mn_dec cX9_findLed 46 = some (47, [], .iload 3) := by decide +kernel
theorem eX9_findLed_47 : mn_dec cX9_findLed 47 = some (48, [], .aload 0) := by decide +kernel
theorem eX9_findLed_48 : mn_dec cX9_findLed 48 = some (51, [], .getfield 58) := by decide +kernel
theorem eX9_findLed_51 : mn_dec cX9_findLed 51 = some (54, [117], .if_icmp .ge 66) := by decide +kernel
theorem eX9_findLed_54 : mn_dec cX9_findLed 54 = some (55, [], .iconst 0) := by decide +kernel
theorem eX9_findLed_55 : mn_dec cX9_findLed 55 = some (57, [], .istore 4) := by decide +kernel
theorem eX9_findLed_57 : mn_dec cX9_findLed 57 = some (59, [], .iload 4) := by decide +kernel
theorem eX9_findLed_59 : mn_dec cX9_findLed 59 = some (60, [], .aload 0) := by decide +kernel
theorem eX9_findLed_60 : mn_dec cX9_findLed 60 = some (63, [], .getfield 58) := by decide +kernel
theorem eX9_findLed_63 : mn_dec cX9_findLed 63 = some (66, [111], .if_icmp .ge 48) := by decide +kernel
theorem eX9_findLed_66 : mn_dec cX9_findLed 66 = some (67, [], .aload 0) := by decide +kernel
theorem eX9_findLed_67 : mn_dec cX9_findLed 67 = some (70, [], .getfield 36) := by decide +kernel
theorem eX9_findLed_70 : mn_dec cX9_findLed 70 = some (71, [], .iload 3) := by decide +kernel
theorem eX9_findLed_71 : mn_dec cX9_findLed 71 = some (72, [], .baload) := by decide +kernel
theorem eX9_findLed_72 : mn_dec cX9_findLed 72 = some (75, [105], .ifCond .eq 33) := by decide +kernel
theorem eX9_findLed_75 : mn_dec cX9_findLed 75 = some (76, [], .aload 0) := by decide +kernel
theorem eX9_findLed_76 : mn_dec cX9_findLed 76 = some (79, [], .getfield 36) := by decide +kernel
theorem eX9_findLed_79 : mn_dec cX9_findLed 79 = some (81, [], .iload 4) := by decide +kernel
theorem eX9_findLed_81 : mn_dec cX9_findLed 81 = some (82, [], .baload) := by decide +kernel
theorem eX9_findLed_82 : mn_dec cX9_findLed 82 = some (85, [105], .ifCond .ne 23) := by decide +kernel
theorem eX9_findLed_85 : mn_dec cX9_findLed 85 = some (86, [], .aload 0) := by decide +kernel
theorem eX9_findLed_86 : mn_dec cX9_findLed 86 = some (88, [], .iload 4) := by decide +kernel
theorem eX9_findLed_88 : mn_dec cX9_findLed 88 = some (89, [], .iload 3) := by decide +kernel
theorem eX9_findLed_89 : mn_dec cX9_findLed 89 = some (92, [], .invokevirtual 73) := by decide +kernel
theorem eX9_findLed_92 : mn_dec cX9_findLed 92 = some (95, [105], .ifCond .le 13) := by decide +kernel
theorem eX9_findLed_95 : mn_dec cX9_findLed 95 = some (96, [], .aload 0) := by decide +kernel
theorem eX9_findLed_96 : mn_dec cX9_findLed 96 = some (99, [], .getfield 36) := by decide +kernel
theorem eX9_findLed_99 : mn_dec cX9_findLed 99 = some (101, [], .iload 4) := by decide +kernel
theorem eX9_findLed_101 : mn_dec cX9_findLed 101 = some (102, [], .iconst 1) := by decide +kernel
theorem eX9_findLed_102 : mn_dec cX9_findLed 102 = some (103, [], .bastore) := by decide +kernel
theorem eX9_findLed_103 : mn_dec cX9_findLed 103 = some (104, [], .iconst 1) := by decide +kernel
theorem eX9_findLed_104 : mn_dec cX9_findLed 104 = some (105, [], .istore 2) := by decide +kernel
theorem eX9_findLed_105 : mn_dec cX9_findLed 105 = some (108, [], .iinc 4 1) := by decide +kernel
theorem eX9_findLed_108 : mn_dec cX9_findLed 108 = some (111, [57], .goto (-51)) := by decide +kernel
theorem eX9_findLed_111 : mn_dec cX9_findLed 111 = some (114, [], .iinc 3 1) := by decide +kernel
theorem eX9_findLed_114 : mn_dec cX9_findLed 114 = some (117, [46], .goto (-68)) := by decide +kernel
theorem eX9_findLed_117 : mn_dec cX9_findLed 117 = some (120, [38], .goto (-79)) := by decide +kernel
theorem eX9_findLed_120 : mn_dec cX9_findLed 120 = some (121, [], .return_) := by decide +kernel
theorem eX9_leads_0 : mn_dec cX9_leads 0 = some (1, [], .aload 0) := by decide +kernel
theorem eX9_leads_1 : mn_dec cX9_leads 1 = some (2, [], .iload 1) := by decide +kernel
theorem eX9_leads_2 : mn_dec cX9_leads 2 = some (5, [], .invokevirtual 67) := by decide +kernel
theorem eX9_leads_5 : mn_dec cX9_leads 5 = some (8, [16], .ifCond .eq 11) := by decide +kernel
theorem eX9_leads_8 : mn_dec cX9_leads 8 = some (9, [], .aload 0) := by decide +kernel
theorem eX9_leads_9 : mn_dec cX9_leads 9 = some (10, [], .iload 2) := by decide +kernel
theorem eX9_leads_10 : mn_dec cX9_leads 10 = some (13, [], .invokevirtual 67) := by decide +kernel
theorem eX9_leads_13 : mn_dec cX9_leads 13 = some (16, [18], .ifCond .ne 5) := by decide +kernel
theorem eX9_leads_16 : mn_dec cX9_leads 16 = some (17, [], .iconst (-1)) := by decide +kernel
theorem eX9_leads_17 : mn_dec cX9_leads 17 = some (18, [], .ireturn) := by decide +kernel
theorem eX9_leads_18 : mn_dec cX9_leads 18 = some (19, [], .aload 0) := by decide +kernel
theorem eX9_leads_19 : mn_dec cX9_leads 19 = some (20, [], .iload 1) := by decide +kernel
theorem eX9_leads_20 : mn_dec cX9_leads 20 = some (23, [], .invokevirtual 110) := by decide +kernel
theorem eX9_leads_23 : mn_dec cX9_leads 23 = some (24, [], .aload 0) := by decide +kernel
theorem eX9_leads_24 : mn_dec cX9_leads 24 = some (27, [], .getfield 36) := by decide +kernel
theorem eX9_leads_27 : mn_dec cX9_leads 27 = some (28, [], .iload 2) := by decide +kernel
theorem eX9_leads_28 : mn_dec cX9_leads 28 = some (29, [], .baload) := by decide +kernel
theorem eX9_leads_29 : mn_dec cX9_leads 29 = some (32, [36], .ifCond .eq 7) := by decide +kernel
theorem eX9_leads_32 : mn_dec cX9_leads 32 = some (33, [], .iconst 1) := by decide +kernel
theorem eX9_leads_33 : mn_dec cX9_leads 33 = some (36, [37], .goto 4) := by decide +kernel
theorem eX9_leads_36 : mn_dec cX9_leads 36 = some (37, [], .iconst 0) := by decide +kernel
theorem eX9_leads_37 : mn_dec cX9_leads 37 = some (38, [], .ireturn) := by decide +kernel
theorem eX9_determinant_0 : mn_dec cX9_determinant 0 = some (1, [], .iconst 1) := by decide +kernel
theorem eX9_determinant_1 : mn_dec cX9_determinant 1 = some (2, [], .istore 1) := by decide +kernel
theorem eX9_determinant_2 : mn_dec cX9_determinant 2 = some (3, [], .iconst 2) := by decide +kernel
theorem eX9_determinant_3 : mn_dec cX9_determinant 3 = some (4, [], .istore 2) := by decide +kernel
theorem eX9_determinant_4 : mn_dec cX9_determinant 4 = some (5, [], .iload 2) := by decide +kernel
theorem eX9_determinant_5 : mn_dec cX9_determinant 5 = some (6, [], .aload 0) := by decide +kernel
theorem eX9_determinant_6 : mn_dec cX9_determinant 6 = some (9, [], .getfield 114) := by decide +kernel
theorem eX9_determinant_9 : mn_dec cX9_determinant 9 = some (12, [22], .if_icmp .gt 13) := by decide +kernel
theorem eX9_determinant_12 : mn_dec cX9_determinant 12 = some (13, [], .iload 1) := by decide +kernel
theorem eX9_determinant_13 : mn_dec cX9_determinant 13 = some (14, [], .iload 2) := by decide +kernel
theorem eX9_determinant_14 : mn_dec cX9_determinant 14 = some (15, [], .imul) := by decide +kernel
theorem eX9_determinant_15 : mn_dec cX9_determinant 15 = some (16, [], .istore 1) := by decide +kernel
theorem eX9_determinant_16 : mn_dec cX9_determinant 16 = some (19, [], .iinc 2 1) := by decide +kernel
theorem eX9_determinant_19 : mn_dec cX9_determinant 19 = some (22, [4], .goto (-15)) := by decide +kernel
theorem eX9_determinant_22 : mn_dec cX9_determinant 22 = some (23, [], .lconst 0) := by decide +kernel
theorem eX9_determinant_23 : mn_dec cX9_determinant 23 = some (24, [], .lstore 2) := by decide +kernel
theorem eX9_determinant_24 : mn_dec cX9_determinant 24 = some (25, [], .iconst 0) := by decide +kernel
theorem eX9_determinant_25 : mn_dec cX9_determinant 25 = some (27, [], .istore 4) := by decide +kernel
theorem eX9_determinant_27 : mn_dec cX9_determinant 27 = some (29, [], .iload 4) := by decide +kernel
theorem eX9_determinant_29 : mn_dec cX9_determinant 29 = some (30, [], .iload 1) := by decide +kernel
theorem eX9_determinant_30 : mn_dec cX9_determinant 30 = some (33, [186], .if_icmp .ge 156) := by decide +kernel
theorem eX9_determinant_33 : mn_dec cX9_determinant 33 = some (35, [], .iload 4) := by decide +kernel
theorem eX9_determinant_35 : mn_dec cX9_determinant 35 = some (37, [], .istore 5) := by decide +kernel
theorem eX9_determinant_37 : mn_dec cX9_determinant 37 = some (38, [], .iconst 0) := by decide +kernel
theorem eX9_determinant_38 : mn_dec cX9_determinant 38 = some (40, [], .istore 6) := by decide +kernel
theorem eX9_determinant_40 : mn_dec cX9_determinant 40 = some (41, [], .lconst 1) := by decide +kernel
theorem eX9_determinant_41 : mn_dec cX9_determinant 41 = some (43, [], .lstore 7) := by decide +kernel
theorem eX9_determinant_43 : mn_dec cX9_determinant 43 = some (44, [], .iconst 0) := by decide +kernel
theorem eX9_determinant_44 : mn_dec cX9_determinant 44 = some (46, [], .istore 9) := by decide +kernel
theorem eX9_determinant_46 : mn_dec cX9_determinant 46 = some (48, [], .iload 9) := by decide +kernel
theorem eX9_determinant_48 : mn_dec cX9_determinant 48 = some (49, [], .aload 0) := by decide +kernel
theorem eX9_determinant_49 : mn_dec cX9_determinant 49 = some (52, [], .getfield 114) := by decide +kernel
theorem eX9_determinant_52 : mn_dec cX9_determinant 52 = some (55, [175], .if_icmp .ge 123) := by decide +kernel
theorem eX9_determinant_55 : mn_dec cX9_determinant 55 = some (57, [], .iload 5) := by decide +kernel
theorem eX9_determinant_57 : mn_dec cX9_determinant 57 = some (58, [], .aload 0) := by decide +kernel
theorem eX9_determinant_58 : mn_dec cX9_determinant 58 = some (61, [], .getfield 114) := by decide +kernel
theorem eX9_determinant_61 : mn_dec cX9_determinant 61 = some (63, [], .iload 9) := by decide +kernel
theorem eX9_determinant_63 : mn_dec cX9_determinant 63 = some (64, [], .isub) := by decide +kernel
theorem eX9_determinant_64 : mn_dec cX9_determinant 64 = some (65, [], .irem) := by decide +kernel
theorem eX9_determinant_65 : mn_dec cX9_determinant 65 = some (67, [], .istore 10) := by decide +kernel
theorem eX9_determinant_67 : mn_dec cX9_determinant 67 = some (69, [], .iload 5) := by decide +kernel
theorem eX9_determinant_69 : mn_dec cX9_determinant 69 = some (70, [], .aload 0) := by decide +kernel
theorem eX9_determinant_70 : mn_dec cX9_determinant 70 = some (73, [], .getfield 114) := by decide +kernel
theorem eX9_determinant_73 : mn_dec cX9_determinant 73 = some (75, [], .iload 9) := by decide +kernel
theorem eX9_determinant_75 : mn_dec cX9_determinant 75 = some (76, [], .isub) := by decide +kernel
theorem eX9_determinant_76 : mn_dec cX9_determinant 76 = some (77, [], .idiv) := by decide +kernel
theorem eX9_determinant_77 : mn_dec cX9_determinant 77 = some (79, [], .istore 5) := by decide +kernel
theorem eX9_determinant_79 : mn_dec cX9_determinant 79 = some (81, [], .iload 10) := by decide +kernel
theorem eX9_determinant_81 : mn_dec cX9_determinant 81 = some (82, [], .iconst 2) := by decide +kernel
theorem eX9_determinant_82 : mn_dec cX9_determinant 82 = some (83, [], .irem) := by decide +kernel
theorem eX9_determinant_83 : mn_dec cX9_determinant 83 = some (86, [91], .ifCond .ne 8) := by decide +kernel
theorem eX9_determinant_86 : mn_dec cX9_determinant 86 = some (88, [], .lload 7) := by decide +kernel
theorem eX9_determinant_88 : mn_dec cX9_determinant 88 = some (91, [94], .goto 6) := by decide +kernel
theorem eX9_determinant_91 : mn_dec cX9_determinant 91 = some (93, [], .lload 7) := by decide +kernel
theorem eX9_determinant_93 : mn_dec cX9_determinant 93 = some (94, [], .lneg) := by decide +kernel
theorem eX9_determinant_94 : mn_dec cX9_determinant 94 = some (96, [], .lstore 7) := by decide +kernel
theorem eX9_determinant_96 : mn_dec cX9_determinant 96 = some (97, [], .iconst 0) := by decide +kernel
theorem eX9_determinant_97 : mn_dec cX9_determinant 97 = some (99, [], .istore 11) := by decide +kernel
theorem eX9_determinant_99 : mn_dec cX9_determinant 99 = some (101, [], .iload 6) := by decide +kernel
theorem eX9_determinant_101 : mn_dec cX9_determinant 101 = some (103, [], .iload 11) := by decide +kernel
theorem eX9_determinant_103 : mn_dec cX9_determinant 103 = some (104, [], .ishr) := by decide +kernel
theorem eX9_determinant_104 : mn_dec cX9_determinant 104 = some (105, [], .iconst 1) := by decide +kernel
theorem eX9_determinant_105 : mn_dec cX9_determinant 105 = some (106, [], .iand) := by decide +kernel
theorem eX9_determinant_106 : mn_dec cX9_determinant 106 = some (107, [], .iconst 1) := by decide +kernel
theorem eX9_determinant_107 : mn_dec cX9_determinant 107 = some (110, [115], .if_icmp .eq 8) := by decide +kernel
theorem eX9_determinant_110 : mn_dec cX9_determinant 110 = some (112, [], .iload 10) := by decide +kernel
theorem eX9_determinant_112 : mn_dec cX9_determinant 112 = some (115, [142], .ifCond .le 30) := by decide +kernel
theorem eX9_determinant_115 : mn_dec cX9_determinant 115 = some (117, [], .iload 10) := by decide +kernel
theorem eX9_determinant_117 : mn_dec cX9_determinant 117 = some (119, [], .iload 6) := by decide +kernel
theorem eX9_determinant_119 : mn_dec cX9_determinant 119 = some (121, [], .iload 11) := by decide +kernel
theorem eX9_determinant_121 : mn_dec cX9_determinant 121 = some (122, [], .ishr) := by decide +kernel
theorem eX9_determinant_122 : mn_dec cX9_determinant 122 = some (123, [], .iconst 1) := by decide +kernel
theorem eX9_determinant_123 : mn_dec cX9_determinant 123 = some (124, [], .iand) := by decide +kernel
theorem eX9_determinant_124 : mn_dec cX9_determinant 124 = some (125, [], .iconst 1) := by decide +kernel
theorem eX9_determinant_125 : mn_dec cX9_determinant 125 = some (128, [132], .if_icmp .ne 7) := by decide +kernel
theorem eX9_determinant_128 : mn_dec cX9_determinant 128 = some (129, [], .iconst 0) := by decide +kernel
theorem eX9_determinant_129 : mn_dec cX9_determinant 129 = some (132, [133], .goto 4) := by decide +kernel
theorem eX9_determinant_132 : mn_dec cX9_determinant 132 = some (133, [], .iconst 1) := by decide +kernel
theorem eX9_determinant_133 : mn_dec cX9_determinant 133 = some (134, [], .isub) := by decide +kernel
theorem eX9_determinant_134 : mn_dec cX9_determinant 134 = some (136, [], .istore 10) := by decide +kernel
theorem eX9_determinant_136 : mn_dec cX9_determinant 136 = some (139, [], .iinc 11 1) := by decide +kernel
theorem eX9_determinant_139 : mn_dec cX9_determinant 139 = some (142, [99], .goto (-40)) := by decide +kernel
theorem eX9_determinant_142 : mn_dec cX9_determinant 142 = some (144, [], .iload 6) := by decide +kernel
theorem eX9_determinant_144 : mn_dec cX9_determinant 144 = some (145, [], .iconst 1) := by decide +kernel
theorem eX9_determinant_145 : mn_dec cX9_determinant 145 = some (147, [], .iload 11) := by decide +kernel
theorem eX9_determinant_147 : mn_dec cX9_determinant 147 = some (148, [], .ishl) := by decide +kernel
theorem eX9_determinant_148 : mn_dec cX9_determinant 148 = some (149, [], .ior) := by decide +kernel
theorem eX9_determinant_149 : mn_dec cX9_determinant 149 = some (151, [], .istore 6) := by decide +kernel
theorem eX9_determinant_151 : mn_dec cX9_determinant 151 = some (153, [], .lload 7) := by decide +kernel
theorem eX9_determinant_153 : mn_dec cX9_determinant 153 = some (154, [], .aload 0) := by decide +kernel
theorem eX9_determinant_154 : mn_dec cX9_determinant 154 = some (157, [], .getfield 39) := by decide +kernel
theorem eX9_determinant_157 : mn_dec cX9_determinant 157 = some (159, [], .iconst 6) := by decide +kernel
theorem eX9_determinant_159 : mn_dec cX9_determinant 159 = some (161, [], .iload 9) := by decide +kernel
theorem eX9_determinant_161 : mn_dec cX9_determinant 161 = some (162, [], .imul) := by decide +kernel
theorem eX9_determinant_162 : mn_dec cX9_determinant 162 = some (164, [], .iload 11) := by decide +kernel
theorem eX9_determinant_164 : mn_dec cX9_determinant 164 = some (165, [], .iadd) := by decide +kernel
theorem eX9_determinant_165 : mn_dec cX9_determinant 165 = some (166, [], .laload) := by decide +kernel
theorem eX9_determinant_166 : mn_dec cX9_determinant 166 = some (167, [], .lmul) := by decide +kernel
theorem eX9_determinant_167 : mn_dec cX9_determinant 167 = some (169, [], .lstore 7) := by decide +kernel
theorem eX9_determinant_169 : mn_dec cX9_determinant 169 = some (172, [], .iinc 9 1) := by decide +kernel
theorem eX9_determinant_172 : mn_dec cX9_determinant 172 = some (175, [46], .goto (-126)) := by decide +kernel
theorem eX9_determinant_175 : mn_dec cX9_determinant 175 = some (176, [], .lload 2) := by decide +kernel
theorem eX9_determinant_176 : mn_dec cX9_determinant 176 = some (178, [], .lload 7) := by decide +kernel
theorem eX9_determinant_178 : mn_dec cX9_determinant 178 = some (179, [], .ladd) := by decide +kernel
theorem eX9_determinant_179 : mn_dec cX9_determinant 179 = some (180, [], .lstore 2) := by decide +kernel
theorem eX9_determinant_180 : mn_dec cX9_determinant 180 = some (183, [], .iinc 4 1) := by decide +kernel
theorem eX9_determinant_183 : mn_dec cX9_determinant 183 = some (186, [27], .goto (-156)) := by decide +kernel
theorem eX9_determinant_186 : mn_dec cX9_determinant 186 = some (187, [], .lload 2) := by decide +kernel
theorem eX9_determinant_187 : mn_dec cX9_determinant 187 = some (188, [], .lreturn) := by decide +kernel
theorem eX9_common_0 : mn_dec cX9_common 0 = some (1, [], .lload 0) := by decide +kernel
theorem eX9_common_1 : mn_dec cX9_common 1 = some (2, [], .lconst 0) := by decide +kernel
theorem eX9_common_2 : mn_dec cX9_common 2 = some (3, [], .lcmp) := by decide +kernel
theorem eX9_common_3 : mn_dec cX9_common 3 = some (6, [11], .ifCond .ge 8) := by decide +kernel
theorem eX9_common_6 : mn_dec cX9_common 6 = some (7, [], .lload 0) := by decide +kernel
theorem eX9_common_7 : mn_dec cX9_common 7 = some (8, [], .lneg) := by decide +kernel
theorem eX9_common_8 : mn_dec cX9_common 8 = some (11, [12], .goto 4) := by decide +kernel
theorem eX9_common_11 : mn_dec cX9_common 11 = some (12, [], .lload 0) := by decide +kernel
theorem eX9_common_12 : mn_dec cX9_common 12 = some (14, [], .lstore 4) := by decide +kernel
theorem eX9_common_14 : mn_dec cX9_common 14 = some (15, [], .lload 2) := by decide +kernel
theorem eX9_common_15 : mn_dec cX9_common 15 = some (16, [], .lconst 0) := by decide +kernel
theorem eX9_common_16 : mn_dec cX9_common 16 = some (17, [], .lcmp) := by decide +kernel
theorem eX9_common_17 : mn_dec cX9_common 17 = some (20, [25], .ifCond .ge 8) := by decide +kernel
theorem eX9_common_20 : mn_dec cX9_common 20 = some (21, [], .lload 2) := by decide +kernel
theorem eX9_common_21 : mn_dec cX9_common 21 = some (22, [], .lneg) := by decide +kernel
theorem eX9_common_22 : mn_dec cX9_common 22 = some (25, [26], .goto 4) := by decide +kernel
theorem eX9_common_25 : mn_dec cX9_common 25 = some (26, [], .lload 2) := by decide +kernel
theorem eX9_common_26 : mn_dec cX9_common 26 = some (28, [], .lstore 6) := by decide +kernel
theorem eX9_common_28 : mn_dec cX9_common 28 = some (30, [], .lload 6) := by decide +kernel
theorem eX9_common_30 : mn_dec cX9_common 30 = some (31, [], .lconst 0) := by decide +kernel
theorem eX9_common_31 : mn_dec cX9_common 31 = some (32, [], .lcmp) := by decide +kernel
theorem eX9_common_32 : mn_dec cX9_common 32 = some (35, [53], .ifCond .eq 21) := by decide +kernel
theorem eX9_common_35 : mn_dec cX9_common 35 = some (37, [], .lload 4) := by decide +kernel
theorem eX9_common_37 : mn_dec cX9_common 37 = some (39, [], .lload 6) := by decide +kernel
theorem eX9_common_39 : mn_dec cX9_common 39 = some (40, [], .lrem) := by decide +kernel
theorem eX9_common_40 : mn_dec cX9_common 40 = some (42, [], .lstore 8) := by decide +kernel
theorem eX9_common_42 : mn_dec cX9_common 42 = some (44, [], .lload 6) := by decide +kernel
theorem eX9_common_44 : mn_dec cX9_common 44 = some (46, [], .lstore 4) := by decide +kernel
theorem eX9_common_46 : mn_dec cX9_common 46 = some (48, [], .lload 8) := by decide +kernel
theorem eX9_common_48 : mn_dec cX9_common 48 = some (50, [], .lstore 6) := by decide +kernel
theorem eX9_common_50 : mn_dec cX9_common 50 = some (53, [28], .goto (-22)) := by decide +kernel
theorem eX9_common_53 : mn_dec cX9_common 53 = some (55, [], .lload 4) := by decide +kernel
theorem eX9_common_55 : mn_dec cX9_common 55 = some (56, [], .lreturn) := by decide +kernel
theorem eX9_lowest_0 : mn_dec cX9_lowest 0 = some (1, [], .lload 0) := by decide +kernel
theorem eX9_lowest_1 : mn_dec cX9_lowest 1 = some (2, [], .lload 2) := by decide +kernel
theorem eX9_lowest_2 : mn_dec cX9_lowest 2 = some (5, [], .invokestatic 117) := by decide +kernel
theorem eX9_lowest_5 : mn_dec cX9_lowest 5 = some (7, [], .lstore 5) := by decide +kernel
theorem eX9_lowest_7 : mn_dec cX9_lowest 7 = some (9, [], .iload 4) := by decide +kernel
theorem eX9_lowest_9 : mn_dec cX9_lowest 9 = some (12, [19], .ifCond .ne 10) := by decide +kernel
theorem eX9_lowest_12 : mn_dec cX9_lowest 12 = some (13, [], .lload 0) := by decide +kernel
theorem eX9_lowest_13 : mn_dec cX9_lowest 13 = some (15, [], .lload 5) := by decide +kernel
theorem eX9_lowest_15 : mn_dec cX9_lowest 15 = some (16, [], .ldiv) := by decide +kernel
theorem eX9_lowest_16 : mn_dec cX9_lowest 16 = some (19, [23], .goto 7) := by decide +kernel
theorem eX9_lowest_19 : mn_dec cX9_lowest 19 = some (20, [], .lload 2) := by decide +kernel
theorem eX9_lowest_20 : mn_dec cX9_lowest 20 = some (22, [], .lload 5) := by decide +kernel
theorem eX9_lowest_22 : mn_dec cX9_lowest 22 = some (23, [], .ldiv) := by decide +kernel
theorem eX9_lowest_23 : mn_dec cX9_lowest 23 = some (24, [], .lreturn) := by decide +kernel
theorem eX9_allWeights_0 : mn_dec cX9_allWeights 0 = some (1, [], .iconst 0) := by decide +kernel
theorem eX9_allWeights_1 : mn_dec cX9_allWeights 1 = some (2, [], .istore 2) := by decide +kernel
theorem eX9_allWeights_2 : mn_dec cX9_allWeights 2 = some (3, [], .iconst 0) := by decide +kernel
theorem eX9_allWeights_3 : mn_dec cX9_allWeights 3 = some (4, [], .istore 3) := by decide +kernel
theorem eX9_allWeights_4 : mn_dec cX9_allWeights 4 = some (5, [], .iload 3) := by decide +kernel
theorem eX9_allWeights_5 : mn_dec cX9_allWeights 5 = some (6, [], .aload 0) := by decide +kernel
theorem eX9_allWeights_6 : mn_dec cX9_allWeights 6 = some (9, [], .getfield 58) := by decide +kernel
theorem eX9_allWeights_9 : mn_dec cX9_allWeights 9 = some (12, [27], .if_icmp .ge 18) := by decide +kernel
theorem eX9_allWeights_12 : mn_dec cX9_allWeights 12 = some (13, [], .iload 2) := by decide +kernel
theorem eX9_allWeights_13 : mn_dec cX9_allWeights 13 = some (14, [], .aload 0) := by decide +kernel
theorem eX9_allWeights_14 : mn_dec cX9_allWeights 14 = some (15, [], .iload 1) := by decide +kernel
theorem eX9_allWeights_15 : mn_dec cX9_allWeights 15 = some (16, [], .iload 3) := by decide +kernel
theorem eX9_allWeights_16 : mn_dec cX9_allWeights 16 = some (19, [], .invokevirtual 73) := by decide +kernel
theorem eX9_allWeights_19 : mn_dec cX9_allWeights 19 = some (20, [], .iadd) := by decide +kernel
theorem eX9_allWeights_20 : mn_dec cX9_allWeights 20 = some (21, [], .istore 2) := by decide +kernel
theorem eX9_allWeights_21 : mn_dec cX9_allWeights 21 = some (24, [], .iinc 3 1) := by decide +kernel
theorem eX9_allWeights_24 : mn_dec cX9_allWeights 24 = some (27, [4], .goto (-20)) := by decide +kernel
theorem eX9_allWeights_27 : mn_dec cX9_allWeights 27 = some (28, [], .iload 2) := by decide +kernel
theorem eX9_allWeights_28 : mn_dec cX9_allWeights 28 = some (29, [], .ireturn) := by decide +kernel
theorem eX9_findShares_0 : mn_dec cX9_findShares 0 = some (1, [], .aload 0) := by decide +kernel
theorem eX9_findShares_1 : mn_dec cX9_findShares 1 = some (4, [], .getfield 58) := by decide +kernel
theorem eX9_findShares_4 : mn_dec cX9_findShares 4 = some (5, [], .i2l) := by decide +kernel
theorem eX9_findShares_5 : mn_dec cX9_findShares 5 = some (8, [], .ldc2_w 121) := by decide +kernel
theorem eX9_findShares_8 : mn_dec cX9_findShares 8 = some (11, [], .ldc2_w 123) := by decide +kernel
theorem eX9_findShares_11 : mn_dec cX9_findShares 11 = some (14, [], .invokestatic 61) := by decide +kernel
theorem eX9_findShares_14 : mn_dec cX9_findShares 14 = some (17, [19], .ifCond .ne 5) := by decide +kernel
theorem eX9_findShares_17 : mn_dec cX9_findShares 17 = some (18, [], .iconst 0) := by decide +kernel
theorem eX9_findShares_18 : mn_dec cX9_findShares 18 = some (19, [], .ireturn) := by decide +kernel
theorem eX9_findShares_19 : mn_dec cX9_findShares 19 = some (20, [], .iconst 0) := by decide +kernel
theorem eX9_findShares_20 : mn_dec cX9_findShares 20 = some (21, [], .istore 1) := by decide +kernel
theorem eX9_findShares_21 : mn_dec cX9_findShares 21 = some (22, [], .iload 1) := by decide +kernel
theorem eX9_findShares_22 : mn_dec cX9_findShares 22 = some (23, [], .aload 0) := by decide +kernel
theorem eX9_findShares_23 : mn_dec cX9_findShares 23 = some (26, [], .getfield 58) := by decide +kernel
theorem eX9_findShares_26 : mn_dec cX9_findShares 26 = some (29, [72], .if_icmp .ge 46) := by decide +kernel
theorem eX9_findShares_29 : mn_dec cX9_findShares 29 = some (30, [], .aload 0) := by decide +kernel
theorem eX9_findShares_30 : mn_dec cX9_findShares 30 = some (31, [], .iload 1) := by decide +kernel
theorem eX9_findShares_31 : mn_dec cX9_findShares 31 = some (34, [], .invokevirtual 110) := by decide +kernel
theorem eX9_findShares_34 : mn_dec cX9_findShares 34 = some (35, [], .iconst 0) := by decide +kernel
theorem eX9_findShares_35 : mn_dec cX9_findShares 35 = some (36, [], .istore 2) := by decide +kernel
theorem eX9_findShares_36 : mn_dec cX9_findShares 36 = some (37, [], .iload 2) := by decide +kernel
theorem eX9_findShares_37 : mn_dec cX9_findShares 37 = some (38, [], .aload 0) := by decide +kernel
theorem eX9_findShares_38 : mn_dec cX9_findShares 38 = some (41, [], .getfield 58) := by decide +kernel
theorem eX9_findShares_41 : mn_dec cX9_findShares 41 = some (44, [66], .if_icmp .ge 25) := by decide +kernel
theorem eX9_findShares_44 : mn_dec cX9_findShares 44 = some (45, [], .iload 1) := by decide +kernel
theorem eX9_findShares_45 : mn_dec cX9_findShares 45 = some (46, [], .iload 2) := by decide +kernel
theorem eX9_findShares_46 : mn_dec cX9_findShares 46 = some (49, [60], .if_icmp .eq 14) := by decide +kernel
theorem eX9_findShares_49 : mn_dec cX9_findShares 49 = some (50, [], .aload 0) := by decide +kernel
theorem eX9_findShares_50 : mn_dec cX9_findShares 50 = some (53, [], .getfield 36) := by decide +kernel
theorem eX9_findShares_53 : mn_dec cX9_findShares 53 = some (54, [], .iload 2) := by decide +kernel
theorem eX9_findShares_54 : mn_dec cX9_findShares 54 = some (55, [], .baload) := by decide +kernel
theorem eX9_findShares_55 : mn_dec cX9_findShares 55 = some (58, [60], .ifCond .ne 5) := by decide +kernel
theorem eX9_findShares_58 : mn_dec cX9_findShares 58 = some (59, [], .iconst 0) := by decide +kernel
theorem eX9_findShares_59 : mn_dec cX9_findShares 59 = some (60, [], .ireturn) := by decide +kernel
theorem eX9_findShares_60 : mn_dec cX9_findShares 60 = some (63, [], .iinc 2 1) := by decide +kernel
theorem eX9_findShares_63 : mn_dec cX9_findShares 63 = some (66, [36], .goto (-27)) := by decide +kernel
theorem eX9_findShares_66 : mn_dec cX9_findShares 66 = some (69, [], .iinc 1 1) := by decide +kernel
theorem eX9_findShares_69 : mn_dec cX9_findShares 69 = some (72, [21], .goto (-48)) := by decide +kernel
theorem eX9_findShares_72 : mn_dec cX9_findShares 72 = some (73, [], .aload 0) := by decide +kernel
theorem eX9_findShares_73 : mn_dec cX9_findShares 73 = some (74, [], .lconst 0) := by decide +kernel
theorem eX9_findShares_74 : mn_dec cX9_findShares 74 = some (77, [], .putfield 125) := by decide +kernel
theorem eX9_findShares_77 : mn_dec cX9_findShares 77 = some (78, [], .aload 0) := by decide +kernel
theorem eX9_findShares_78 : mn_dec cX9_findShares 78 = some (79, [], .aload 0) := by decide +kernel
theorem eX9_findShares_79 : mn_dec cX9_findShares 79 = some (82, [], .getfield 58) := by decide +kernel
theorem eX9_findShares_82 : mn_dec cX9_findShares 82 = some (83, [], .iconst 1) := by decide +kernel
theorem eX9_findShares_83 : mn_dec cX9_findShares 83 = some (84, [], .isub) := by decide +kernel
theorem eX9_findShares_84 : mn_dec cX9_findShares 84 = some (87, [], .putfield 114) := by decide +kernel
theorem eX9_findShares_87 : mn_dec cX9_findShares 87 = some (88, [], .iconst 0) := by decide +kernel
theorem eX9_findShares_88 : mn_dec cX9_findShares 88 = some (89, [], .istore 1) := by decide +kernel
theorem eX9_findShares_89 : mn_dec cX9_findShares 89 = some (90, [], .iload 1) := by decide +kernel
theorem eX9_findShares_90 : mn_dec cX9_findShares 90 = some (91, [], .aload 0) := by decide +kernel
theorem eX9_findShares_91 : mn_dec cX9_findShares 91 = some (94, [], .getfield 58) := by decide +kernel
theorem eX9_findShares_94 : mn_dec cX9_findShares 94 = some (97, [233], .if_icmp .ge 139) := by decide +kernel
theorem eX9_findShares_97 : mn_dec cX9_findShares 97 = some (98, [], .iconst 0) := by decide +kernel
theorem eX9_findShares_98 : mn_dec cX9_findShares 98 = some (99, [], .istore 2) := by decide +kernel
theorem eX9_findShares_99 : mn_dec cX9_findShares 99 = some (100, [], .iload 2) := by decide +kernel
theorem eX9_findShares_100 : mn_dec cX9_findShares 100 = some (101, [], .aload 0) := by decide +kernel
theorem eX9_findShares_101 : mn_dec cX9_findShares 101 = some (104, [], .getfield 114) := by decide +kernel
theorem eX9_findShares_104 : mn_dec cX9_findShares 104 = some (107, [195], .if_icmp .ge 91) := by decide +kernel
theorem eX9_findShares_107 : mn_dec cX9_findShares 107 = some (108, [], .iconst 0) := by decide +kernel
theorem eX9_findShares_108 : mn_dec cX9_findShares 108 = some (109, [], .istore 3) := by decide +kernel
theorem eX9_findShares_109 : mn_dec cX9_findShares 109 = some (110, [], .iload 3) := by decide +kernel
theorem eX9_findShares_110 : mn_dec cX9_findShares 110 = some (111, [], .aload 0) := by decide +kernel
theorem eX9_findShares_111 : mn_dec cX9_findShares 111 = some (114, [], .getfield 114) := by decide +kernel
theorem eX9_findShares_114 : mn_dec cX9_findShares 114 = some (117, [189], .if_icmp .ge 75) := by decide +kernel
theorem eX9_findShares_117 : mn_dec cX9_findShares 117 = some (118, [], .iload 2) := by decide +kernel
theorem eX9_findShares_118 : mn_dec cX9_findShares 118 = some (119, [], .iload 1) := by decide +kernel
theorem eX9_findShares_119 : mn_dec cX9_findShares 119 = some (122, [126], .if_icmp .ge 7) := by decide +kernel
theorem eX9_findShares_122 : mn_dec cX9_findShares 122 = some (123, [], .iload 2) := by decide +kernel
theorem eX9_findShares_123 : mn_dec cX9_findShares 123 = some (126, [129], .goto 6) := by decide +kernel
theorem eX9_findShares_126 : mn_dec cX9_findShares 126 = some (127, [], .iload 2) := by decide +kernel
theorem eX9_findShares_127 : mn_dec cX9_findShares 127 = some (128, [], .iconst 1) := by decide +kernel
theorem eX9_findShares_128 : mn_dec cX9_findShares 128 = some (129, [], .iadd) := by decide +kernel
theorem eX9_findShares_129 : mn_dec cX9_findShares 129 = some (131, [], .istore 4) := by decide +kernel
theorem eX9_findShares_131 : mn_dec cX9_findShares 131 = some (132, [], .iload 3) := by decide +kernel
theorem eX9_findShares_132 : mn_dec cX9_findShares 132 = some (133, [], .iload 1) := by decide +kernel
theorem eX9_findShares_133 : mn_dec cX9_findShares 133 = some (136, [140], .if_icmp .ge 7) := by decide +kernel
theorem eX9_findShares_136 : mn_dec cX9_findShares 136 = some (137, [], .iload 3) := by decide +kernel
theorem eX9_findShares_137 : mn_dec cX9_findShares 137 = some (140, [143], .goto 6) := by decide +kernel
theorem eX9_findShares_140 : mn_dec cX9_findShares 140 = some (141, [], .iload 3) := by decide +kernel
theorem eX9_findShares_141 : mn_dec cX9_findShares 141 = some (142, [], .iconst 1) := by decide +kernel
theorem eX9_findShares_142 : mn_dec cX9_findShares 142 = some (143, [], .iadd) := by decide +kernel
theorem eX9_findShares_143 : mn_dec cX9_findShares 143 = some (145, [], .istore 5) := by decide +kernel
theorem eX9_findShares_145 : mn_dec cX9_findShares 145 = some (146, [], .aload 0) := by decide +kernel
theorem eX9_findShares_146 : mn_dec cX9_findShares 146 = some (149, [], .getfield 39) := by decide +kernel
theorem eX9_findShares_149 : mn_dec cX9_findShares 149 = some (151, [], .iconst 6) := by decide +kernel
theorem eX9_findShares_151 : mn_dec cX9_findShares 151 = some (152, [], .iload 2) := by decide +kernel
theorem eX9_findShares_152 : mn_dec cX9_findShares 152 = some (153, [], .imul) := by decide +kernel
theorem eX9_findShares_153 : mn_dec cX9_findShares 153 = some (154, [], .iload 3) := by decide +kernel
theorem eX9_findShares_154 : mn_dec cX9_findShares 154 = some (155, [], .iadd) := by decide +kernel
theorem eX9_findShares_155 : mn_dec cX9_findShares 155 = some (157, [], .iload 4) := by decide +kernel
theorem eX9_findShares_157 : mn_dec cX9_findShares 157 = some (159, [], .iload 5) := by decide +kernel
theorem eX9_findShares_159 : mn_dec cX9_findShares 159 = some (162, [171], .if_icmp .ne 12) := by decide +kernel
theorem eX9_findShares_162 : mn_dec cX9_findShares 162 = some (163, [], .aload 0) := by decide +kernel
theorem eX9_findShares_163 : mn_dec cX9_findShares 163 = some (165, [], .iload 4) := by decide +kernel
theorem eX9_findShares_165 : mn_dec cX9_findShares 165 = some (168, [], .invokevirtual 129) := by decide +kernel
theorem eX9_findShares_168 : mn_dec cX9_findShares 168 = some (171, [172], .goto 4) := by decide +kernel
theorem eX9_findShares_171 : mn_dec cX9_findShares 171 = some (172, [], .iconst 0) := by decide +kernel
theorem eX9_findShares_172 : mn_dec cX9_findShares 172 = some (173, [], .aload 0) := by decide +kernel
theorem eX9_findShares_173 : mn_dec cX9_findShares 173 = some (175, [], .iload 4) := by decide +kernel
theorem eX9_findShares_175 : mn_dec cX9_findShares 175 = some (177, [], .iload 5) := by decide +kernel
theorem eX9_findShares_177 : mn_dec cX9_findShares 177 = some (180, [], .invokevirtual 73) := by decide +kernel
theorem eX9_findShares_180 : mn_dec cX9_findShares 180 = some (181, [], .isub) := by decide +kernel
theorem eX9_findShares_181 : mn_dec cX9_findShares 181 = some (182, [], .i2l) := by decide +kernel
theorem eX9_findShares_182 : mn_dec cX9_findShares 182 = some (183, [], .lastore) := by decide +kernel
theorem eX9_findShares_183 : mn_dec cX9_findShares 183 = some (186, [], .iinc 3 1) := by decide +kernel
theorem eX9_findShares_186 : mn_dec cX9_findShares 186 = some (189, [109], .goto (-77)) := by decide +kernel
theorem eX9_findShares_189 : mn_dec cX9_findShares 189 = some (192, [], .iinc 2 1) := by decide +kernel
theorem eX9_findShares_192 : mn_dec cX9_findShares 192 = some (195, [99], .goto (-93)) := by decide +kernel
theorem eX9_findShares_195 : mn_dec cX9_findShares 195 = some (196, [], .aload 0) := by decide +kernel
theorem eX9_findShares_196 : mn_dec cX9_findShares 196 = some (199, [], .getfield 43) := by decide +kernel
theorem eX9_findShares_199 : mn_dec cX9_findShares 199 = some (200, [], .iload 1) := by decide +kernel
theorem eX9_findShares_200 : mn_dec cX9_findShares 200 = some (201, [], .aload 0) := by decide +kernel
theorem eX9_findShares_201 : mn_dec cX9_findShares 201 = some (204, [], .invokevirtual 132) := by decide +kernel
theorem eX9_findShares_204 : mn_dec cX9_findShares 204 = some (205, [], .aload 0) := by decide +kernel
theorem eX9_findShares_205 : mn_dec cX9_findShares 205 = some (206, [], .iload 1) := by decide +kernel
theorem eX9_findShares_206 : mn_dec cX9_findShares 206 = some (209, [], .invokevirtual 129) := by decide +kernel
theorem eX9_findShares_209 : mn_dec cX9_findShares 209 = some (210, [], .i2l) := by decide +kernel
theorem eX9_findShares_210 : mn_dec cX9_findShares 210 = some (211, [], .lmul) := by decide +kernel
theorem eX9_findShares_211 : mn_dec cX9_findShares 211 = some (212, [], .lastore) := by decide +kernel
theorem eX9_findShares_212 : mn_dec cX9_findShares 212 = some (213, [], .aload 0) := by decide +kernel
theorem eX9_findShares_213 : mn_dec cX9_findShares 213 = some (214, [], .dup) := by decide +kernel
theorem eX9_findShares_214 : mn_dec cX9_findShares 214 = some (217, [], .getfield 125) := by decide +kernel
theorem eX9_findShares_217 : mn_dec cX9_findShares 217 = some (218, [], .aload 0) := by decide +kernel
theorem eX9_findShares_218 : mn_dec cX9_findShares 218 = some (221, [], .getfield 43) := by decide +kernel
theorem eX9_findShares_221 : mn_dec cX9_findShares 221 = some (222, [], .iload 1) := by decide +kernel
theorem eX9_findShares_222 : mn_dec cX9_findShares 222 = some (223, [], .laload) := by decide +kernel
theorem eX9_findShares_223 : mn_dec cX9_findShares 223 = some (224, [], .ladd) := by decide +kernel
theorem eX9_findShares_224 : mn_dec cX9_findShares 224 = some (227, [], .putfield 125) := by decide +kernel
theorem eX9_findShares_227 : mn_dec cX9_findShares 227 = some (230, [], .iinc 1 1) := by decide +kernel
theorem eX9_findShares_230 : mn_dec cX9_findShares 230 = some (233, [89], .goto (-141)) := by decide +kernel
theorem eX9_findShares_233 : mn_dec cX9_findShares 233 = some (234, [], .iconst 1) := by decide +kernel
theorem eX9_findShares_234 : mn_dec cX9_findShares 234 = some (235, [], .ireturn) := by decide +kernel
theorem eX9_share_0 : mn_dec cX9_share 0 = some (1, [], .aload 0) := by decide +kernel
theorem eX9_share_1 : mn_dec cX9_share 1 = some (2, [], .iload 1) := by decide +kernel
theorem eX9_share_2 : mn_dec cX9_share 2 = some (5, [], .invokevirtual 67) := by decide +kernel
theorem eX9_share_5 : mn_dec cX9_share 5 = some (8, [12], .ifCond .ne 7) := by decide +kernel
theorem eX9_share_8 : mn_dec cX9_share 8 = some (11, [], .ldc2_w 136) := by decide +kernel
theorem eX9_share_11 : mn_dec cX9_share 11 = some (12, [], .lreturn) := by decide +kernel
theorem eX9_share_12 : mn_dec cX9_share 12 = some (13, [], .iload 2) := by decide +kernel
theorem eX9_share_13 : mn_dec cX9_share 13 = some (14, [], .i2l) := by decide +kernel
theorem eX9_share_14 : mn_dec cX9_share 14 = some (15, [], .lconst 0) := by decide +kernel
theorem eX9_share_15 : mn_dec cX9_share 15 = some (16, [], .lconst 1) := by decide +kernel
theorem eX9_share_16 : mn_dec cX9_share 16 = some (19, [], .invokestatic 61) := by decide +kernel
theorem eX9_share_19 : mn_dec cX9_share 19 = some (22, [26], .ifCond .ne 7) := by decide +kernel
theorem eX9_share_22 : mn_dec cX9_share 22 = some (25, [], .ldc2_w 138) := by decide +kernel
theorem eX9_share_25 : mn_dec cX9_share 25 = some (26, [], .lreturn) := by decide +kernel
theorem eX9_share_26 : mn_dec cX9_share 26 = some (27, [], .aload 0) := by decide +kernel
theorem eX9_share_27 : mn_dec cX9_share 27 = some (30, [], .invokevirtual 140) := by decide +kernel
theorem eX9_share_30 : mn_dec cX9_share 30 = some (33, [50], .ifCond .eq 20) := by decide +kernel
theorem eX9_share_33 : mn_dec cX9_share 33 = some (34, [], .aload 0) := by decide +kernel
theorem eX9_share_34 : mn_dec cX9_share 34 = some (37, [], .getfield 43) := by decide +kernel
theorem eX9_share_37 : mn_dec cX9_share 37 = some (38, [], .iload 1) := by decide +kernel
theorem eX9_share_38 : mn_dec cX9_share 38 = some (39, [], .laload) := by decide +kernel
theorem eX9_share_39 : mn_dec cX9_share 39 = some (40, [], .aload 0) := by decide +kernel
theorem eX9_share_40 : mn_dec cX9_share 40 = some (43, [], .getfield 125) := by decide +kernel
theorem eX9_share_43 : mn_dec cX9_share 43 = some (44, [], .iload 2) := by decide +kernel
theorem eX9_share_44 : mn_dec cX9_share 44 = some (47, [], .invokestatic 143) := by decide +kernel
theorem eX9_share_47 : mn_dec cX9_share 47 = some (50, [53], .goto 6) := by decide +kernel
theorem eX9_share_50 : mn_dec cX9_share 50 = some (53, [], .ldc2_w 147) := by decide +kernel
theorem eX9_share_53 : mn_dec cX9_share 53 = some (54, [], .lreturn) := by decide +kernel
theorem eX9_end_0 : mn_dec cX9_end 0 = some (1, [], .iload 1) := by decide +kernel
theorem eX9_end_1 : mn_dec cX9_end 1 = some (2, [], .i2l) := by decide +kernel
theorem eX9_end_2 : mn_dec cX9_end 2 = some (3, [], .lconst 0) := by decide +kernel
theorem eX9_end_3 : mn_dec cX9_end 3 = some (4, [], .lconst 1) := by decide +kernel
theorem eX9_end_4 : mn_dec cX9_end 4 = some (7, [], .invokestatic 61) := by decide +kernel
theorem eX9_end_7 : mn_dec cX9_end 7 = some (10, [14], .ifCond .ne 7) := by decide +kernel
theorem eX9_end_10 : mn_dec cX9_end 10 = some (13, [], .ldc2_w 138) := by decide +kernel
theorem eX9_end_13 : mn_dec cX9_end 13 = some (14, [], .lreturn) := by decide +kernel
theorem eX9_end_14 : mn_dec cX9_end 14 = some (15, [], .aload 0) := by decide +kernel
theorem eX9_end_15 : mn_dec cX9_end 15 = some (18, [], .invokevirtual 140) := by decide +kernel
theorem eX9_end_18 : mn_dec cX9_end 18 = some (21, [25], .ifCond .ne 7) := by decide +kernel
theorem eX9_end_21 : mn_dec cX9_end 21 = some (24, [], .ldc2_w 147) := by decide +kernel
theorem eX9_end_24 : mn_dec cX9_end 24 = some (25, [], .lreturn) := by decide +kernel
theorem eX9_end_25 : mn_dec cX9_end 25 = some (26, [], .lconst 0) := by decide +kernel
theorem eX9_end_26 : mn_dec cX9_end 26 = some (27, [], .lstore 2) := by decide +kernel
theorem eX9_end_27 : mn_dec cX9_end 27 = some (28, [], .iconst 0) := by decide +kernel
theorem eX9_end_28 : mn_dec cX9_end 28 = some (30, [], .istore 4) := by decide +kernel
theorem eX9_end_30 : mn_dec cX9_end 30 = some (32, [], .iload 4) := by decide +kernel
theorem eX9_end_32 : mn_dec cX9_end 32 = some (33, [], .aload 0) := by decide +kernel
theorem eX9_end_33 : mn_dec cX9_end 33 = some (36, [], .getfield 58) := by decide +kernel
theorem eX9_end_36 : mn_dec cX9_end 36 = some (39, [64], .if_icmp .ge 28) := by decide +kernel
theorem eX9_end_39 : mn_dec cX9_end 39 = some (40, [], .lload 2) := by decide +kernel
theorem eX9_end_40 : mn_dec cX9_end 40 = some (41, [], .aload 0) := by decide +kernel
theorem eX9_end_41 : mn_dec cX9_end 41 = some (44, [], .getfield 43) := by decide +kernel
theorem eX9_end_44 : mn_dec cX9_end 44 = some (46, [], .iload 4) := by decide +kernel
theorem eX9_end_46 : mn_dec cX9_end 46 = some (47, [], .laload) := by decide +kernel
theorem eX9_end_47 : mn_dec cX9_end 47 = some (48, [], .aload 0) := by decide +kernel
theorem eX9_end_48 : mn_dec cX9_end 48 = some (51, [], .getfield 7) := by decide +kernel
theorem eX9_end_51 : mn_dec cX9_end 51 = some (53, [], .iload 4) := by decide +kernel
theorem eX9_end_53 : mn_dec cX9_end 53 = some (54, [], .iaload) := by decide +kernel
theorem eX9_end_54 : mn_dec cX9_end 54 = some (55, [], .i2l) := by decide +kernel
theorem eX9_end_55 : mn_dec cX9_end 55 = some (56, [], .lmul) := by decide +kernel
theorem eX9_end_56 : mn_dec cX9_end 56 = some (57, [], .ladd) := by decide +kernel
theorem eX9_end_57 : mn_dec cX9_end 57 = some (58, [], .lstore 2) := by decide +kernel
theorem eX9_end_58 : mn_dec cX9_end 58 = some (61, [], .iinc 4 1) := by decide +kernel
theorem eX9_end_61 : mn_dec cX9_end 61 = some (64, [30], .goto (-31)) := by decide +kernel
theorem eX9_end_64 : mn_dec cX9_end 64 = some (65, [], .lload 2) := by decide +kernel
theorem eX9_end_65 : mn_dec cX9_end 65 = some (66, [], .aload 0) := by decide +kernel
theorem eX9_end_66 : mn_dec cX9_end 66 = some (69, [], .getfield 125) := by decide +kernel
theorem eX9_end_69 : mn_dec cX9_end 69 = some (70, [], .iload 1) := by decide +kernel
theorem eX9_end_70 : mn_dec cX9_end 70 = some (73, [], .invokestatic 143) := by decide +kernel
theorem eX9_end_73 : mn_dec cX9_end 73 = some (74, [], .lreturn) := by decide +kernel
theorem eX9_canRest_0 : mn_dec cX9_canRest 0 = some (1, [], .aload 0) := by decide +kernel
theorem eX9_canRest_1 : mn_dec cX9_canRest 1 = some (2, [], .iconst 0) := by decide +kernel
theorem eX9_canRest_2 : mn_dec cX9_canRest 2 = some (5, [], .putfield 149) := by decide +kernel
theorem eX9_canRest_5 : mn_dec cX9_canRest 5 = some (6, [], .iconst 0) := by decide +kernel
theorem eX9_canRest_6 : mn_dec cX9_canRest 6 = some (7, [], .istore 1) := by decide +kernel
theorem eX9_canRest_7 : mn_dec cX9_canRest 7 = some (8, [], .iload 1) := by decide +kernel
theorem eX9_canRest_8 : mn_dec cX9_canRest 8 = some (9, [], .aload 0) := by decide +kernel
theorem eX9_canRest_9 : mn_dec cX9_canRest 9 = some (12, [], .getfield 58) := by decide +kernel
theorem eX9_canRest_12 : mn_dec cX9_canRest 12 = some (15, [50], .if_icmp .ge 38) := by decide +kernel
theorem eX9_canRest_15 : mn_dec cX9_canRest 15 = some (16, [], .aload 0) := by decide +kernel
theorem eX9_canRest_16 : mn_dec cX9_canRest 16 = some (19, [], .getfield 13) := by decide +kernel
theorem eX9_canRest_19 : mn_dec cX9_canRest 19 = some (20, [], .iload 1) := by decide +kernel
theorem eX9_canRest_20 : mn_dec cX9_canRest 20 = some (21, [], .baload) := by decide +kernel
theorem eX9_canRest_21 : mn_dec cX9_canRest 21 = some (24, [44], .ifCond .ne 23) := by decide +kernel
theorem eX9_canRest_24 : mn_dec cX9_canRest 24 = some (25, [], .aload 0) := by decide +kernel
theorem eX9_canRest_25 : mn_dec cX9_canRest 25 = some (28, [], .getfield 46) := by decide +kernel
theorem eX9_canRest_28 : mn_dec cX9_canRest 28 = some (29, [], .aload 0) := by decide +kernel
theorem eX9_canRest_29 : mn_dec cX9_canRest 29 = some (32, [], .getfield 149) := by decide +kernel
theorem eX9_canRest_32 : mn_dec cX9_canRest 32 = some (33, [], .iload 1) := by decide +kernel
theorem eX9_canRest_33 : mn_dec cX9_canRest 33 = some (34, [], .iastore) := by decide +kernel
theorem eX9_canRest_34 : mn_dec cX9_canRest 34 = some (35, [], .aload 0) := by decide +kernel
theorem eX9_canRest_35 : mn_dec cX9_canRest 35 = some (36, [], .dup) := by decide +kernel
theorem eX9_canRest_36 : mn_dec cX9_canRest 36 = some (39, [], .getfield 149) := by decide +kernel
theorem eX9_canRest_39 : mn_dec cX9_canRest 39 = some (40, [], .iconst 1) := by decide +kernel
theorem eX9_canRest_40 : mn_dec cX9_canRest 40 = some (41, [], .iadd) := by decide +kernel
theorem eX9_canRest_41 : mn_dec cX9_canRest 41 = some (44, [], .putfield 149) := by decide +kernel
theorem eX9_canRest_44 : mn_dec cX9_canRest 44 = some (47, [], .iinc 1 1) := by decide +kernel
theorem eX9_canRest_47 : mn_dec cX9_canRest 47 = some (50, [7], .goto (-40)) := by decide +kernel
theorem eX9_canRest_50 : mn_dec cX9_canRest 50 = some (51, [], .aload 0) := by decide +kernel
theorem eX9_canRest_51 : mn_dec cX9_canRest 51 = some (54, [], .getfield 149) := by decide +kernel
theorem eX9_canRest_54 : mn_dec cX9_canRest 54 = some (55, [], .i2l) := by decide +kernel
theorem eX9_canRest_55 : mn_dec cX9_canRest 55 = some (56, [], .lconst 1) := by decide +kernel
theorem eX9_canRest_56 : mn_dec cX9_canRest 56 = some (59, [], .ldc2_w 123) := by decide +kernel
theorem eX9_canRest_59 : mn_dec cX9_canRest 59 = some (62, [], .invokestatic 61) := by decide +kernel
theorem eX9_canRest_62 : mn_dec cX9_canRest 62 = some (65, [67], .ifCond .ne 5) := by decide +kernel
theorem eX9_canRest_65 : mn_dec cX9_canRest 65 = some (66, [], .iconst 0) := by decide +kernel
theorem eX9_canRest_66 : mn_dec cX9_canRest 66 = some (67, [], .ireturn) := by decide +kernel
theorem eX9_canRest_67 : mn_dec cX9_canRest 67 = some (68, [], .iconst 0) := by decide +kernel
theorem eX9_canRest_68 : mn_dec cX9_canRest 68 = some (69, [], .istore 1) := by decide +kernel
theorem eX9_canRest_69 : mn_dec cX9_canRest 69 = some (70, [], .iload 1) := by decide +kernel
theorem eX9_canRest_70 : mn_dec cX9_canRest 70 = some (71, [], .aload 0) := by decide +kernel
theorem eX9_canRest_71 : mn_dec cX9_canRest 71 = some (74, [], .getfield 149) := by decide +kernel
theorem eX9_canRest_74 : mn_dec cX9_canRest 74 = some (77, [137], .if_icmp .ge 63) := by decide +kernel
theorem eX9_canRest_77 : mn_dec cX9_canRest 77 = some (78, [], .iconst 0) := by decide +kernel
theorem eX9_canRest_78 : mn_dec cX9_canRest 78 = some (79, [], .istore 2) := by decide +kernel
theorem eX9_canRest_79 : mn_dec cX9_canRest 79 = some (80, [], .iconst 0) := by decide +kernel
theorem eX9_canRest_80 : mn_dec cX9_canRest 80 = some (81, [], .istore 3) := by decide +kernel
theorem eX9_canRest_81 : mn_dec cX9_canRest 81 = some (82, [], .iload 3) := by decide +kernel
theorem eX9_canRest_82 : mn_dec cX9_canRest 82 = some (83, [], .aload 0) := by decide +kernel
theorem eX9_canRest_83 : mn_dec cX9_canRest 83 = some (86, [], .getfield 58) := by decide +kernel
theorem eX9_canRest_86 : mn_dec cX9_canRest 86 = some (89, [125], .if_icmp .ge 39) := by decide +kernel
theorem eX9_canRest_89 : mn_dec cX9_canRest 89 = some (90, [], .iload 2) := by decide +kernel
theorem eX9_canRest_90 : mn_dec cX9_canRest 90 = some (93, [125], .ifCond .ne 35) := by decide +kernel
theorem eX9_canRest_93 : mn_dec cX9_canRest 93 = some (94, [], .aload 0) := by decide +kernel
theorem eX9_canRest_94 : mn_dec cX9_canRest 94 = some (97, [], .getfield 13) := by decide +kernel
theorem eX9_canRest_97 : mn_dec cX9_canRest 97 = some (98, [], .iload 3) := by decide +kernel
theorem eX9_canRest_98 : mn_dec cX9_canRest 98 = some (99, [], .baload) := by decide +kernel
theorem eX9_canRest_99 : mn_dec cX9_canRest 99 = some (102, [119], .ifCond .eq 20) := by decide +kernel
theorem eX9_canRest_102 : mn_dec cX9_canRest 102 = some (103, [], .aload 0) := by decide +kernel
theorem eX9_canRest_103 : mn_dec cX9_canRest 103 = some (104, [], .iload 3) := by decide +kernel
theorem eX9_canRest_104 : mn_dec cX9_canRest 104 = some (107, [], .invokevirtual 110) := by decide +kernel
theorem eX9_canRest_107 : mn_dec cX9_canRest 107 = some (108, [], .aload 0) := by decide +kernel
theorem eX9_canRest_108 : mn_dec cX9_canRest 108 = some (111, [], .getfield 36) := by decide +kernel
theorem eX9_canRest_111 : mn_dec cX9_canRest 111 = some (112, [], .aload 0) := by decide +kernel
theorem eX9_canRest_112 : mn_dec cX9_canRest 112 = some (115, [], .getfield 46) := by decide +kernel
theorem eX9_canRest_115 : mn_dec cX9_canRest 115 = some (116, [], .iload 1) := by decide +kernel
theorem eX9_canRest_116 : mn_dec cX9_canRest 116 = some (117, [], .iaload) := by decide +kernel
theorem eX9_canRest_117 : mn_dec cX9_canRest 117 = some (118, [], .baload) := by decide +kernel
theorem eX9_canRest_118 : mn_dec cX9_canRest 118 = some (119, [], .istore 2) := by decide +kernel
theorem eX9_canRest_119 : mn_dec cX9_canRest 119 = some (122, [], .iinc 3 1) := by decide +kernel
theorem eX9_canRest_122 : mn_dec cX9_canRest 122 = some (125, [81], .goto (-41)) := by decide +kernel
theorem eX9_canRest_125 : mn_dec cX9_canRest 125 = some (126, [], .iload 2) := by decide +kernel
theorem eX9_canRest_126 : mn_dec cX9_canRest 126 = some (129, [131], .ifCond .ne 5) := by decide +kernel
theorem eX9_canRest_129 : mn_dec cX9_canRest 129 = some (130, [], .iconst 0) := by decide +kernel
theorem eX9_canRest_130 : mn_dec cX9_canRest 130 = some (131, [], .ireturn) := by decide +kernel
theorem eX9_canRest_131 : mn_dec cX9_canRest 131 = some (134, [], .iinc 1 1) := by decide +kernel
theorem eX9_canRest_134 : mn_dec cX9_canRest 134 = some (137, [69], .goto (-65)) := by decide +kernel
theorem eX9_canRest_137 : mn_dec cX9_canRest 137 = some (138, [], .iconst 1) := by decide +kernel
theorem eX9_canRest_138 : mn_dec cX9_canRest 138 = some (139, [], .ireturn) := by decide +kernel
theorem eX9_toOthers_0 : mn_dec cX9_toOthers 0 = some (1, [], .aload 0) := by decide +kernel
theorem eX9_toOthers_1 : mn_dec cX9_toOthers 1 = some (2, [], .iload 1) := by decide +kernel
theorem eX9_toOthers_2 : mn_dec cX9_toOthers 2 = some (5, [], .invokevirtual 129) := by decide +kernel
theorem eX9_toOthers_5 : mn_dec cX9_toOthers 5 = some (6, [], .aload 0) := by decide +kernel
theorem eX9_toOthers_6 : mn_dec cX9_toOthers 6 = some (7, [], .iload 1) := by decide +kernel
theorem eX9_toOthers_7 : mn_dec cX9_toOthers 7 = some (8, [], .iload 1) := by decide +kernel
theorem eX9_toOthers_8 : mn_dec cX9_toOthers 8 = some (11, [], .invokevirtual 73) := by decide +kernel
theorem eX9_toOthers_11 : mn_dec cX9_toOthers 11 = some (12, [], .isub) := by decide +kernel
theorem eX9_toOthers_12 : mn_dec cX9_toOthers 12 = some (13, [], .ireturn) := by decide +kernel
theorem eX9_fromStubborn_0 : mn_dec cX9_fromStubborn 0 = some (1, [], .lconst 0) := by decide +kernel
theorem eX9_fromStubborn_1 : mn_dec cX9_fromStubborn 1 = some (2, [], .lstore 2) := by decide +kernel
theorem eX9_fromStubborn_2 : mn_dec cX9_fromStubborn 2 = some (3, [], .iconst 0) := by decide +kernel
theorem eX9_fromStubborn_3 : mn_dec cX9_fromStubborn 3 = some (5, [], .istore 4) := by decide +kernel
theorem eX9_fromStubborn_5 : mn_dec cX9_fromStubborn 5 = some (7, [], .iload 4) := by decide +kernel
theorem eX9_fromStubborn_7 : mn_dec cX9_fromStubborn 7 = some (8, [], .aload 0) := by decide +kernel
theorem eX9_fromStubborn_8 : mn_dec cX9_fromStubborn 8 = some (11, [], .getfield 58) := by decide +kernel
theorem eX9_fromStubborn_11 : mn_dec cX9_fromStubborn 11 = some (14, [54], .if_icmp .ge 43) := by decide +kernel
theorem eX9_fromStubborn_14 : mn_dec cX9_fromStubborn 14 = some (15, [], .lload 2) := by decide +kernel
theorem eX9_fromStubborn_15 : mn_dec cX9_fromStubborn 15 = some (16, [], .aload 0) := by decide +kernel
theorem eX9_fromStubborn_16 : mn_dec cX9_fromStubborn 16 = some (19, [], .getfield 13) := by decide +kernel
theorem eX9_fromStubborn_19 : mn_dec cX9_fromStubborn 19 = some (21, [], .iload 4) := by decide +kernel
theorem eX9_fromStubborn_21 : mn_dec cX9_fromStubborn 21 = some (22, [], .baload) := by decide +kernel
theorem eX9_fromStubborn_22 : mn_dec cX9_fromStubborn 22 = some (25, [45], .ifCond .eq 23) := by decide +kernel
theorem eX9_fromStubborn_25 : mn_dec cX9_fromStubborn 25 = some (26, [], .aload 0) := by decide +kernel
theorem eX9_fromStubborn_26 : mn_dec cX9_fromStubborn 26 = some (27, [], .iload 1) := by decide +kernel
theorem eX9_fromStubborn_27 : mn_dec cX9_fromStubborn 27 = some (29, [], .iload 4) := by decide +kernel
theorem eX9_fromStubborn_29 : mn_dec cX9_fromStubborn 29 = some (32, [], .invokevirtual 73) := by decide +kernel
theorem eX9_fromStubborn_32 : mn_dec cX9_fromStubborn 32 = some (33, [], .i2l) := by decide +kernel
theorem eX9_fromStubborn_33 : mn_dec cX9_fromStubborn 33 = some (34, [], .aload 0) := by decide +kernel
theorem eX9_fromStubborn_34 : mn_dec cX9_fromStubborn 34 = some (37, [], .getfield 7) := by decide +kernel
theorem eX9_fromStubborn_37 : mn_dec cX9_fromStubborn 37 = some (39, [], .iload 4) := by decide +kernel
theorem eX9_fromStubborn_39 : mn_dec cX9_fromStubborn 39 = some (40, [], .iaload) := by decide +kernel
theorem eX9_fromStubborn_40 : mn_dec cX9_fromStubborn 40 = some (41, [], .i2l) := by decide +kernel
theorem eX9_fromStubborn_41 : mn_dec cX9_fromStubborn 41 = some (42, [], .lmul) := by decide +kernel
theorem eX9_fromStubborn_42 : mn_dec cX9_fromStubborn 42 = some (45, [46], .goto 4) := by decide +kernel
theorem eX9_fromStubborn_45 : mn_dec cX9_fromStubborn 45 = some (46, [], .lconst 0) := by decide +kernel
theorem eX9_fromStubborn_46 : mn_dec cX9_fromStubborn 46 = some (47, [], .ladd) := by decide +kernel
theorem eX9_fromStubborn_47 : mn_dec cX9_fromStubborn 47 = some (48, [], .lstore 2) := by decide +kernel
theorem eX9_fromStubborn_48 : mn_dec cX9_fromStubborn 48 = some (51, [], .iinc 4 1) := by decide +kernel
theorem eX9_fromStubborn_51 : mn_dec cX9_fromStubborn 51 = some (54, [5], .goto (-46)) := by decide +kernel
theorem eX9_fromStubborn_54 : mn_dec cX9_fromStubborn 54 = some (55, [], .lload 2) := by decide +kernel
theorem eX9_fromStubborn_55 : mn_dec cX9_fromStubborn 55 = some (56, [], .lreturn) := by decide +kernel
theorem eX9_layRest_0 : mn_dec cX9_layRest 0 = some (1, [], .aload 0) := by decide +kernel
theorem eX9_layRest_1 : mn_dec cX9_layRest 1 = some (2, [], .aload 0) := by decide +kernel
theorem eX9_layRest_2 : mn_dec cX9_layRest 2 = some (5, [], .getfield 149) := by decide +kernel
theorem eX9_layRest_5 : mn_dec cX9_layRest 5 = some (8, [], .putfield 114) := by decide +kernel
theorem eX9_layRest_8 : mn_dec cX9_layRest 8 = some (9, [], .iconst 0) := by decide +kernel
theorem eX9_layRest_9 : mn_dec cX9_layRest 9 = some (10, [], .istore 1) := by decide +kernel
theorem eX9_layRest_10 : mn_dec cX9_layRest 10 = some (11, [], .iload 1) := by decide +kernel
theorem eX9_layRest_11 : mn_dec cX9_layRest 11 = some (12, [], .aload 0) := by decide +kernel
theorem eX9_layRest_12 : mn_dec cX9_layRest 12 = some (15, [], .getfield 114) := by decide +kernel
theorem eX9_layRest_15 : mn_dec cX9_layRest 15 = some (18, [88], .if_icmp .ge 73) := by decide +kernel
theorem eX9_layRest_18 : mn_dec cX9_layRest 18 = some (19, [], .iconst 0) := by decide +kernel
theorem eX9_layRest_19 : mn_dec cX9_layRest 19 = some (20, [], .istore 2) := by decide +kernel
theorem eX9_layRest_20 : mn_dec cX9_layRest 20 = some (21, [], .iload 2) := by decide +kernel
theorem eX9_layRest_21 : mn_dec cX9_layRest 21 = some (22, [], .aload 0) := by decide +kernel
theorem eX9_layRest_22 : mn_dec cX9_layRest 22 = some (25, [], .getfield 114) := by decide +kernel
theorem eX9_layRest_25 : mn_dec cX9_layRest 25 = some (28, [82], .if_icmp .ge 57) := by decide +kernel
theorem eX9_layRest_28 : mn_dec cX9_layRest 28 = some (29, [], .aload 0) := by decide +kernel
theorem eX9_layRest_29 : mn_dec cX9_layRest 29 = some (32, [], .getfield 39) := by decide +kernel
theorem eX9_layRest_32 : mn_dec cX9_layRest 32 = some (34, [], .iconst 6) := by decide +kernel
theorem eX9_layRest_34 : mn_dec cX9_layRest 34 = some (35, [], .iload 1) := by decide +kernel
theorem eX9_layRest_35 : mn_dec cX9_layRest 35 = some (36, [], .imul) := by decide +kernel
theorem eX9_layRest_36 : mn_dec cX9_layRest 36 = some (37, [], .iload 2) := by decide +kernel
theorem eX9_layRest_37 : mn_dec cX9_layRest 37 = some (38, [], .iadd) := by decide +kernel
theorem eX9_layRest_38 : mn_dec cX9_layRest 38 = some (39, [], .iload 1) := by decide +kernel
theorem eX9_layRest_39 : mn_dec cX9_layRest 39 = some (40, [], .iload 2) := by decide +kernel
theorem eX9_layRest_40 : mn_dec cX9_layRest 40 = some (43, [57], .if_icmp .ne 17) := by decide +kernel
theorem eX9_layRest_43 : mn_dec cX9_layRest 43 = some (44, [], .aload 0) := by decide +kernel
theorem eX9_layRest_44 : mn_dec cX9_layRest 44 = some (45, [], .aload 0) := by decide +kernel
theorem eX9_layRest_45 : mn_dec cX9_layRest 45 = some (48, [], .getfield 46) := by decide +kernel
theorem eX9_layRest_48 : mn_dec cX9_layRest 48 = some (49, [], .iload 1) := by decide +kernel
theorem eX9_layRest_49 : mn_dec cX9_layRest 49 = some (50, [], .iaload) := by decide +kernel
theorem eX9_layRest_50 : mn_dec cX9_layRest 50 = some (53, [], .invokevirtual 152) := by decide +kernel
theorem eX9_layRest_53 : mn_dec cX9_layRest 53 = some (54, [], .i2l) := by decide +kernel
theorem eX9_layRest_54 : mn_dec cX9_layRest 54 = some (57, [75], .goto 21) := by decide +kernel
theorem eX9_layRest_57 : mn_dec cX9_layRest 57 = some (58, [], .aload 0) := by decide +kernel
theorem eX9_layRest_58 : mn_dec cX9_layRest 58 = some (59, [], .aload 0) := by decide +kernel
theorem eX9_layRest_59 : mn_dec cX9_layRest 59 = some (62, [], .getfield 46) := by decide +kernel
theorem eX9_layRest_62 : mn_dec cX9_layRest 62 = some (63, [], .iload 1) := by decide +kernel
theorem eX9_layRest_63 : mn_dec cX9_layRest 63 = some (64, [], .iaload) := by decide +kernel
theorem eX9_layRest_64 : mn_dec cX9_layRest 64 = some (65, [], .aload 0) := by decide +kernel
theorem eX9_layRest_65 : mn_dec cX9_layRest 65 = some (68, [], .getfield 46) := by decide +kernel
theorem eX9_layRest_68 : mn_dec cX9_layRest 68 = some (69, [], .iload 2) := by decide +kernel
theorem eX9_layRest_69 : mn_dec cX9_layRest 69 = some (70, [], .iaload) := by decide +kernel
theorem eX9_layRest_70 : mn_dec cX9_layRest 70 = some (73, [], .invokevirtual 73) := by decide +kernel
theorem eX9_layRest_73 : mn_dec cX9_layRest 73 = some (74, [], .ineg) := by decide +kernel
theorem eX9_layRest_74 : mn_dec cX9_layRest 74 = some (75, [], .i2l) := by decide +kernel
theorem eX9_layRest_75 : mn_dec cX9_layRest 75 = some (76, [], .lastore) := by decide +kernel
theorem eX9_layRest_76 : mn_dec cX9_layRest 76 = some (79, [], .iinc 2 1) := by decide +kernel
theorem eX9_layRest_79 : mn_dec cX9_layRest 79 = some (82, [20], .goto (-59)) := by decide +kernel
theorem eX9_layRest_82 : mn_dec cX9_layRest 82 = some (85, [], .iinc 1 1) := by decide +kernel
theorem eX9_layRest_85 : mn_dec cX9_layRest 85 = some (88, [10], .goto (-75)) := by decide +kernel
theorem eX9_layRest_88 : mn_dec cX9_layRest 88 = some (89, [], .return_) := by decide +kernel
theorem eX9_findRest_0 : mn_dec cX9_findRest 0 = some (1, [], .aload 0) := by decide +kernel
theorem eX9_findRest_1 : mn_dec cX9_findRest 1 = some (4, [], .invokevirtual 155) := by decide +kernel
theorem eX9_findRest_4 : mn_dec cX9_findRest 4 = some (7, [9], .ifCond .ne 5) := by decide +kernel
theorem eX9_findRest_7 : mn_dec cX9_findRest 7 = some (8, [], .iconst 0) := by decide +kernel
theorem eX9_findRest_8 : mn_dec cX9_findRest 8 = some (9, [], .ireturn) := by decide +kernel
theorem eX9_findRest_9 : mn_dec cX9_findRest 9 = some (10, [], .aload 0) := by decide +kernel
theorem eX9_findRest_10 : mn_dec cX9_findRest 10 = some (13, [], .invokevirtual 158) := by decide +kernel
theorem eX9_findRest_13 : mn_dec cX9_findRest 13 = some (14, [], .aload 0) := by decide +kernel
theorem eX9_findRest_14 : mn_dec cX9_findRest 14 = some (15, [], .aload 0) := by decide +kernel
theorem eX9_findRest_15 : mn_dec cX9_findRest 15 = some (18, [], .invokevirtual 132) := by decide +kernel
theorem eX9_findRest_18 : mn_dec cX9_findRest 18 = some (21, [], .putfield 161) := by decide +kernel
theorem eX9_findRest_21 : mn_dec cX9_findRest 21 = some (22, [], .iconst 0) := by decide +kernel
theorem eX9_findRest_22 : mn_dec cX9_findRest 22 = some (23, [], .istore 1) := by decide +kernel
theorem eX9_findRest_23 : mn_dec cX9_findRest 23 = some (24, [], .iload 1) := by decide +kernel
theorem eX9_findRest_24 : mn_dec cX9_findRest 24 = some (25, [], .aload 0) := by decide +kernel
theorem eX9_findRest_25 : mn_dec cX9_findRest 25 = some (28, [], .getfield 149) := by decide +kernel
theorem eX9_findRest_28 : mn_dec cX9_findRest 28 = some (31, [93], .if_icmp .ge 65) := by decide +kernel
theorem eX9_findRest_31 : mn_dec cX9_findRest 31 = some (32, [], .aload 0) := by decide +kernel
theorem eX9_findRest_32 : mn_dec cX9_findRest 32 = some (35, [], .invokevirtual 158) := by decide +kernel
theorem eX9_findRest_35 : mn_dec cX9_findRest 35 = some (36, [], .iconst 0) := by decide +kernel
theorem eX9_findRest_36 : mn_dec cX9_findRest 36 = some (37, [], .istore 2) := by decide +kernel
theorem eX9_findRest_37 : mn_dec cX9_findRest 37 = some (38, [], .iload 2) := by decide +kernel
theorem eX9_findRest_38 : mn_dec cX9_findRest 38 = some (39, [], .aload 0) := by decide +kernel
theorem eX9_findRest_39 : mn_dec cX9_findRest 39 = some (42, [], .getfield 114) := by decide +kernel
theorem eX9_findRest_42 : mn_dec cX9_findRest 42 = some (45, [72], .if_icmp .ge 30) := by decide +kernel
theorem eX9_findRest_45 : mn_dec cX9_findRest 45 = some (46, [], .aload 0) := by decide +kernel
theorem eX9_findRest_46 : mn_dec cX9_findRest 46 = some (49, [], .getfield 39) := by decide +kernel
theorem eX9_findRest_49 : mn_dec cX9_findRest 49 = some (51, [], .iconst 6) := by decide +kernel
theorem eX9_findRest_51 : mn_dec cX9_findRest 51 = some (52, [], .iload 2) := by decide +kernel
theorem eX9_findRest_52 : mn_dec cX9_findRest 52 = some (53, [], .imul) := by decide +kernel
theorem eX9_findRest_53 : mn_dec cX9_findRest 53 = some (54, [], .iload 1) := by decide +kernel
theorem eX9_findRest_54 : mn_dec cX9_findRest 54 = some (55, [], .iadd) := by decide +kernel
theorem eX9_findRest_55 : mn_dec cX9_findRest 55 = some (56, [], .aload 0) := by decide +kernel
theorem eX9_findRest_56 : mn_dec cX9_findRest 56 = some (57, [], .aload 0) := by decide +kernel
theorem eX9_findRest_57 : mn_dec cX9_findRest 57 = some (60, [], .getfield 46) := by decide +kernel
theorem eX9_findRest_60 : mn_dec cX9_findRest 60 = some (61, [], .iload 2) := by decide +kernel
theorem eX9_findRest_61 : mn_dec cX9_findRest 61 = some (62, [], .iaload) := by decide +kernel
theorem eX9_findRest_62 : mn_dec cX9_findRest 62 = some (65, [], .invokevirtual 164) := by decide +kernel
theorem eX9_findRest_65 : mn_dec cX9_findRest 65 = some (66, [], .lastore) := by decide +kernel
theorem eX9_findRest_66 : mn_dec cX9_findRest 66 = some (69, [], .iinc 2 1) := by decide +kernel
theorem eX9_findRest_69 : mn_dec cX9_findRest 69 = some (72, [37], .goto (-32)) := by decide +kernel
theorem eX9_findRest_72 : mn_dec cX9_findRest 72 = some (73, [], .aload 0) := by decide +kernel
theorem eX9_findRest_73 : mn_dec cX9_findRest 73 = some (76, [], .getfield 49) := by decide +kernel
theorem eX9_findRest_76 : mn_dec cX9_findRest 76 = some (77, [], .aload 0) := by decide +kernel
theorem eX9_findRest_77 : mn_dec cX9_findRest 77 = some (80, [], .getfield 46) := by decide +kernel
theorem eX9_findRest_80 : mn_dec cX9_findRest 80 = some (81, [], .iload 1) := by decide +kernel
theorem eX9_findRest_81 : mn_dec cX9_findRest 81 = some (82, [], .iaload) := by decide +kernel
theorem eX9_findRest_82 : mn_dec cX9_findRest 82 = some (83, [], .aload 0) := by decide +kernel
theorem eX9_findRest_83 : mn_dec cX9_findRest 83 = some (86, [], .invokevirtual 132) := by decide +kernel
theorem eX9_findRest_86 : mn_dec cX9_findRest 86 = some (87, [], .lastore) := by decide +kernel
theorem eX9_findRest_87 : mn_dec cX9_findRest 87 = some (90, [], .iinc 1 1) := by decide +kernel
theorem eX9_findRest_90 : mn_dec cX9_findRest 90 = some (93, [23], .goto (-67)) := by decide +kernel
theorem eX9_findRest_93 : mn_dec cX9_findRest 93 = some (94, [], .iconst 0) := by decide +kernel
theorem eX9_findRest_94 : mn_dec cX9_findRest 94 = some (95, [], .istore 1) := by decide +kernel
theorem eX9_findRest_95 : mn_dec cX9_findRest 95 = some (96, [], .iload 1) := by decide +kernel
theorem eX9_findRest_96 : mn_dec cX9_findRest 96 = some (97, [], .aload 0) := by decide +kernel
theorem eX9_findRest_97 : mn_dec cX9_findRest 97 = some (100, [], .getfield 58) := by decide +kernel
theorem eX9_findRest_100 : mn_dec cX9_findRest 100 = some (103, [145], .if_icmp .ge 45) := by decide +kernel
theorem eX9_findRest_103 : mn_dec cX9_findRest 103 = some (104, [], .aload 0) := by decide +kernel
theorem eX9_findRest_104 : mn_dec cX9_findRest 104 = some (107, [], .getfield 49) := by decide +kernel
theorem eX9_findRest_107 : mn_dec cX9_findRest 107 = some (108, [], .iload 1) := by decide +kernel
theorem eX9_findRest_108 : mn_dec cX9_findRest 108 = some (109, [], .aload 0) := by decide +kernel
theorem eX9_findRest_109 : mn_dec cX9_findRest 109 = some (112, [], .getfield 13) := by decide +kernel
theorem eX9_findRest_112 : mn_dec cX9_findRest 112 = some (113, [], .iload 1) := by decide +kernel
theorem eX9_findRest_113 : mn_dec cX9_findRest 113 = some (114, [], .baload) := by decide +kernel
theorem eX9_findRest_114 : mn_dec cX9_findRest 114 = some (117, [132], .ifCond .eq 18) := by decide +kernel
theorem eX9_findRest_117 : mn_dec cX9_findRest 117 = some (118, [], .aload 0) := by decide +kernel
theorem eX9_findRest_118 : mn_dec cX9_findRest 118 = some (121, [], .getfield 7) := by decide +kernel
theorem eX9_findRest_121 : mn_dec cX9_findRest 121 = some (122, [], .iload 1) := by decide +kernel
theorem eX9_findRest_122 : mn_dec cX9_findRest 122 = some (123, [], .iaload) := by decide +kernel
theorem eX9_findRest_123 : mn_dec cX9_findRest 123 = some (124, [], .i2l) := by decide +kernel
theorem eX9_findRest_124 : mn_dec cX9_findRest 124 = some (125, [], .aload 0) := by decide +kernel
theorem eX9_findRest_125 : mn_dec cX9_findRest 125 = some (128, [], .getfield 161) := by decide +kernel
theorem eX9_findRest_128 : mn_dec cX9_findRest 128 = some (129, [], .lmul) := by decide +kernel
theorem eX9_findRest_129 : mn_dec cX9_findRest 129 = some (132, [138], .goto 9) := by decide +kernel
theorem eX9_findRest_132 : mn_dec cX9_findRest 132 = some (133, [], .aload 0) := by decide +kernel
theorem eX9_findRest_133 : mn_dec cX9_findRest 133 = some (136, [], .getfield 49) := by decide +kernel
theorem eX9_findRest_136 : mn_dec cX9_findRest 136 = some (137, [], .iload 1) := by decide +kernel
theorem eX9_findRest_137 : mn_dec cX9_findRest 137 = some (138, [], .laload) := by decide +kernel
theorem eX9_findRest_138 : mn_dec cX9_findRest 138 = some (139, [], .lastore) := by decide +kernel
theorem eX9_findRest_139 : mn_dec cX9_findRest 139 = some (142, [], .iinc 1 1) := by decide +kernel
theorem eX9_findRest_142 : mn_dec cX9_findRest 142 = some (145, [95], .goto (-47)) := by decide +kernel
theorem eX9_findRest_145 : mn_dec cX9_findRest 145 = some (146, [], .iconst 1) := by decide +kernel
theorem eX9_findRest_146 : mn_dec cX9_findRest 146 = some (147, [], .ireturn) := by decide +kernel
theorem eX9_rest_0 : mn_dec cX9_rest 0 = some (1, [], .aload 0) := by decide +kernel
theorem eX9_rest_1 : mn_dec cX9_rest 1 = some (2, [], .iload 1) := by decide +kernel
theorem eX9_rest_2 : mn_dec cX9_rest 2 = some (5, [], .invokevirtual 67) := by decide +kernel
theorem eX9_rest_5 : mn_dec cX9_rest 5 = some (8, [12], .ifCond .ne 7) := by decide +kernel
theorem eX9_rest_8 : mn_dec cX9_rest 8 = some (11, [], .ldc2_w 136) := by decide +kernel
theorem eX9_rest_11 : mn_dec cX9_rest 11 = some (12, [], .lreturn) := by decide +kernel
theorem eX9_rest_12 : mn_dec cX9_rest 12 = some (13, [], .iload 2) := by decide +kernel
theorem eX9_rest_13 : mn_dec cX9_rest 13 = some (14, [], .i2l) := by decide +kernel
theorem eX9_rest_14 : mn_dec cX9_rest 14 = some (15, [], .lconst 0) := by decide +kernel
theorem eX9_rest_15 : mn_dec cX9_rest 15 = some (16, [], .lconst 1) := by decide +kernel
theorem eX9_rest_16 : mn_dec cX9_rest 16 = some (19, [], .invokestatic 61) := by decide +kernel
theorem eX9_rest_19 : mn_dec cX9_rest 19 = some (22, [26], .ifCond .ne 7) := by decide +kernel
theorem eX9_rest_22 : mn_dec cX9_rest 22 = some (25, [], .ldc2_w 138) := by decide +kernel
theorem eX9_rest_25 : mn_dec cX9_rest 25 = some (26, [], .lreturn) := by decide +kernel
theorem eX9_rest_26 : mn_dec cX9_rest 26 = some (27, [], .aload 0) := by decide +kernel
theorem eX9_rest_27 : mn_dec cX9_rest 27 = some (30, [], .invokevirtual 168) := by decide +kernel
theorem eX9_rest_30 : mn_dec cX9_rest 30 = some (33, [50], .ifCond .eq 20) := by decide +kernel
theorem eX9_rest_33 : mn_dec cX9_rest 33 = some (34, [], .aload 0) := by decide +kernel
theorem eX9_rest_34 : mn_dec cX9_rest 34 = some (37, [], .getfield 49) := by decide +kernel
theorem eX9_rest_37 : mn_dec cX9_rest 37 = some (38, [], .iload 1) := by decide +kernel
theorem eX9_rest_38 : mn_dec cX9_rest 38 = some (39, [], .laload) := by decide +kernel
theorem eX9_rest_39 : mn_dec cX9_rest 39 = some (40, [], .aload 0) := by decide +kernel
theorem eX9_rest_40 : mn_dec cX9_rest 40 = some (43, [], .getfield 161) := by decide +kernel
theorem eX9_rest_43 : mn_dec cX9_rest 43 = some (44, [], .iload 2) := by decide +kernel
theorem eX9_rest_44 : mn_dec cX9_rest 44 = some (47, [], .invokestatic 143) := by decide +kernel
theorem eX9_rest_47 : mn_dec cX9_rest 47 = some (50, [53], .goto 6) := by decide +kernel
theorem eX9_rest_50 : mn_dec cX9_rest 50 = some (53, [], .ldc2_w 147) := by decide +kernel
theorem eX9_rest_53 : mn_dec cX9_rest 53 = some (54, [], .lreturn) := by decide +kernel
theorem eX9_isGreater_0 : mn_dec cX9_isGreater 0 = some (1, [], .lload 0) := by decide +kernel
theorem eX9_isGreater_1 : mn_dec cX9_isGreater 1 = some (3, [], .lstore 8) := by decide +kernel
theorem eX9_isGreater_3 : mn_dec cX9_isGreater 3 = some (4, [], .lload 2) := by decide +kernel
theorem eX9_isGreater_4 : mn_dec cX9_isGreater 4 = some (6, [], .lstore 10) := by decide +kernel
theorem eX9_isGreater_6 : mn_dec cX9_isGreater 6 = some (8, [], .lload 4) := by decide +kernel
theorem eX9_isGreater_8 : mn_dec cX9_isGreater 8 = some (10, [], .lstore 12) := by decide +kernel
theorem eX9_isGreater_10 : mn_dec cX9_isGreater 10 = some (12, [], .lload 6) := by decide +kernel
theorem eX9_isGreater_12 : mn_dec cX9_isGreater 12 = some (14, [], .lstore 14) := by decide +kernel
theorem eX9_isGreater_14 : mn_dec cX9_isGreater 14 = some (15, [], .iconst 0) := by decide +kernel
theorem eX9_isGreater_15 : mn_dec cX9_isGreater 15 = some (17, [], .istore 16) := by decide +kernel
theorem eX9_isGreater_17 : mn_dec cX9_isGreater 17 = some (19, [], .lload 8) := by decide +kernel
theorem eX9_isGreater_19 : mn_dec cX9_isGreater 19 = some (21, [], .lload 10) := by decide +kernel
theorem eX9_isGreater_21 : mn_dec cX9_isGreater 21 = some (22, [], .ldiv) := by decide +kernel
theorem eX9_isGreater_22 : mn_dec cX9_isGreater 22 = some (24, [], .lload 12) := by decide +kernel
theorem eX9_isGreater_24 : mn_dec cX9_isGreater 24 = some (26, [], .lload 14) := by decide +kernel
theorem eX9_isGreater_26 : mn_dec cX9_isGreater 26 = some (27, [], .ldiv) := by decide +kernel
theorem eX9_isGreater_27 : mn_dec cX9_isGreater 27 = some (28, [], .lcmp) := by decide +kernel
theorem eX9_isGreater_28 : mn_dec cX9_isGreater 28 = some (31, [61], .ifCond .eq 33) := by decide +kernel
theorem eX9_isGreater_31 : mn_dec cX9_isGreater 31 = some (33, [], .lload 8) := by decide +kernel
theorem eX9_isGreater_33 : mn_dec cX9_isGreater 33 = some (35, [], .lload 10) := by decide +kernel
theorem eX9_isGreater_35 : mn_dec cX9_isGreater 35 = some (36, [], .ldiv) := by decide +kernel
theorem eX9_isGreater_36 : mn_dec cX9_isGreater 36 = some (38, [], .lload 12) := by decide +kernel
theorem eX9_isGreater_38 : mn_dec cX9_isGreater 38 = some (40, [], .lload 14) := by decide +kernel
theorem eX9_isGreater_40 : mn_dec cX9_isGreater 40 = some (41, [], .ldiv) := by decide +kernel
theorem eX9_isGreater_41 : mn_dec cX9_isGreater 41 = some (42, [], .lcmp) := by decide +kernel
theorem eX9_isGreater_42 : mn_dec cX9_isGreater 42 = some (45, [49], .ifCond .le 7) := by decide +kernel
theorem eX9_isGreater_45 : mn_dec cX9_isGreater 45 = some (46, [], .iconst 1) := by decide +kernel
theorem eX9_isGreater_46 : mn_dec cX9_isGreater 46 = some (49, [50], .goto 4) := by decide +kernel
theorem eX9_isGreater_49 : mn_dec cX9_isGreater 49 = some (50, [], .iconst 0) := by decide +kernel
theorem eX9_isGreater_50 : mn_dec cX9_isGreater 50 = some (52, [], .iload 16) := by decide +kernel
theorem eX9_isGreater_52 : mn_dec cX9_isGreater 52 = some (55, [59], .if_icmp .eq 7) := by decide +kernel
theorem eX9_isGreater_55 : mn_dec cX9_isGreater 55 = some (56, [], .iconst 1) := by decide +kernel
theorem eX9_isGreater_56 : mn_dec cX9_isGreater 56 = some (59, [60], .goto 4) := by decide +kernel
theorem eX9_isGreater_59 : mn_dec cX9_isGreater 59 = some (60, [], .iconst 0) := by decide +kernel
theorem eX9_isGreater_60 : mn_dec cX9_isGreater 60 = some (61, [], .ireturn) := by decide +kernel
theorem eX9_isGreater_61 : mn_dec cX9_isGreater 61 = some (63, [], .lload 8) := by decide +kernel
theorem eX9_isGreater_63 : mn_dec cX9_isGreater 63 = some (65, [], .lload 10) := by decide +kernel
theorem eX9_isGreater_65 : mn_dec cX9_isGreater 65 = some (66, [], .lrem) := by decide +kernel
theorem eX9_isGreater_66 : mn_dec cX9_isGreater 66 = some (68, [], .lstore 17) := by decide +kernel
theorem eX9_isGreater_68 : mn_dec cX9_isGreater 68 = some (70, [], .lload 12) := by decide +kernel
theorem eX9_isGreater_70 : mn_dec cX9_isGreater 70 = some (72, [], .lload 14) := by decide +kernel
theorem eX9_isGreater_72 : mn_dec cX9_isGreater 72 = some (73, [], .lrem) := by decide +kernel
theorem eX9_isGreater_73 : mn_dec cX9_isGreater 73 = some (75, [], .lstore 19) := by decide +kernel
theorem eX9_isGreater_75 : mn_dec cX9_isGreater 75 = some (77, [], .lload 17) := by decide +kernel
theorem eX9_isGreater_77 : mn_dec cX9_isGreater 77 = some (78, [], .lconst 0) := by decide +kernel
theorem eX9_isGreater_78 : mn_dec cX9_isGreater 78 = some (79, [], .lcmp) := by decide +kernel
theorem eX9_isGreater_79 : mn_dec cX9_isGreater 79 = some (82, [89], .ifCond .eq 10) := by decide +kernel
theorem eX9_isGreater_82 : mn_dec cX9_isGreater 82 = some (84, [], .lload 19) := by decide +kernel
theorem eX9_isGreater_84 : mn_dec cX9_isGreater 84 = some (85, [], .lconst 0) := by decide +kernel
theorem eX9_isGreater_85 : mn_dec cX9_isGreater 85 = some (86, [], .lcmp) := by decide +kernel
theorem eX9_isGreater_86 : mn_dec cX9_isGreater 86 = some (89, [120], .ifCond .ne 34) := by decide +kernel
theorem eX9_isGreater_89 : mn_dec cX9_isGreater 89 = some (91, [], .lload 17) := by decide +kernel
theorem eX9_isGreater_91 : mn_dec cX9_isGreater 91 = some (93, [], .lload 19) := by decide +kernel
theorem eX9_isGreater_93 : mn_dec cX9_isGreater 93 = some (94, [], .lcmp) := by decide +kernel
theorem eX9_isGreater_94 : mn_dec cX9_isGreater 94 = some (97, [118], .ifCond .eq 24) := by decide +kernel
theorem eX9_isGreater_97 : mn_dec cX9_isGreater 97 = some (99, [], .lload 17) := by decide +kernel
theorem eX9_isGreater_99 : mn_dec cX9_isGreater 99 = some (100, [], .lconst 0) := by decide +kernel
theorem eX9_isGreater_100 : mn_dec cX9_isGreater 100 = some (101, [], .lcmp) := by decide +kernel
theorem eX9_isGreater_101 : mn_dec cX9_isGreater 101 = some (104, [108], .ifCond .le 7) := by decide +kernel
theorem eX9_isGreater_104 : mn_dec cX9_isGreater 104 = some (105, [], .iconst 1) := by decide +kernel
theorem eX9_isGreater_105 : mn_dec cX9_isGreater 105 = some (108, [109], .goto 4) := by decide +kernel
theorem eX9_isGreater_108 : mn_dec cX9_isGreater 108 = some (109, [], .iconst 0) := by decide +kernel
theorem eX9_isGreater_109 : mn_dec cX9_isGreater 109 = some (111, [], .iload 16) := by decide +kernel
theorem eX9_isGreater_111 : mn_dec cX9_isGreater 111 = some (114, [118], .if_icmp .eq 7) := by decide +kernel
theorem eX9_isGreater_114 : mn_dec cX9_isGreater 114 = some (115, [], .iconst 1) := by decide +kernel
theorem eX9_isGreater_115 : mn_dec cX9_isGreater 115 = some (118, [119], .goto 4) := by decide +kernel
theorem eX9_isGreater_118 : mn_dec cX9_isGreater 118 = some (119, [], .iconst 0) := by decide +kernel
theorem eX9_isGreater_119 : mn_dec cX9_isGreater 119 = some (120, [], .ireturn) := by decide +kernel
theorem eX9_isGreater_120 : mn_dec cX9_isGreater 120 = some (122, [], .lload 10) := by decide +kernel
theorem eX9_isGreater_122 : mn_dec cX9_isGreater 122 = some (124, [], .lstore 8) := by decide +kernel
theorem eX9_isGreater_124 : mn_dec cX9_isGreater 124 = some (126, [], .lload 17) := by decide +kernel
theorem eX9_isGreater_126 : mn_dec cX9_isGreater 126 = some (128, [], .lstore 10) := by decide +kernel
theorem eX9_isGreater_128 : mn_dec cX9_isGreater 128 = some (130, [], .lload 14) := by decide +kernel
theorem eX9_isGreater_130 : mn_dec cX9_isGreater 130 = some (132, [], .lstore 12) := by decide +kernel
theorem eX9_isGreater_132 : mn_dec cX9_isGreater 132 = some (134, [], .lload 19) := by decide +kernel
theorem eX9_isGreater_134 : mn_dec cX9_isGreater 134 = some (136, [], .lstore 14) := by decide +kernel
theorem eX9_isGreater_136 : mn_dec cX9_isGreater 136 = some (138, [], .iload 16) := by decide +kernel
theorem eX9_isGreater_138 : mn_dec cX9_isGreater 138 = some (141, [145], .ifCond .ne 7) := by decide +kernel
theorem eX9_isGreater_141 : mn_dec cX9_isGreater 141 = some (142, [], .iconst 1) := by decide +kernel
theorem eX9_isGreater_142 : mn_dec cX9_isGreater 142 = some (145, [146], .goto 4) := by decide +kernel
theorem eX9_isGreater_145 : mn_dec cX9_isGreater 145 = some (146, [], .iconst 0) := by decide +kernel
theorem eX9_isGreater_146 : mn_dec cX9_isGreater 146 = some (148, [], .istore 16) := by decide +kernel
theorem eX9_isGreater_148 : mn_dec cX9_isGreater 148 = some (151, [17], .goto (-131)) := by decide +kernel
theorem eX9_pull_0 : mn_dec cX9_pull 0 = some (1, [], .iload 1) := by decide +kernel
theorem eX9_pull_1 : mn_dec cX9_pull 1 = some (2, [], .i2l) := by decide +kernel
theorem eX9_pull_2 : mn_dec cX9_pull 2 = some (3, [], .lconst 0) := by decide +kernel
theorem eX9_pull_3 : mn_dec cX9_pull 3 = some (6, [], .ldc2_w 65) := by decide +kernel
theorem eX9_pull_6 : mn_dec cX9_pull 6 = some (9, [], .invokestatic 61) := by decide +kernel
theorem eX9_pull_9 : mn_dec cX9_pull 9 = some (12, [15], .ifCond .ne 6) := by decide +kernel
theorem eX9_pull_12 : mn_dec cX9_pull 12 = some (14, [], .iconst (-2)) := by decide +kernel
theorem eX9_pull_14 : mn_dec cX9_pull 14 = some (15, [], .ireturn) := by decide +kernel
theorem eX9_pull_15 : mn_dec cX9_pull 15 = some (16, [], .aload 0) := by decide +kernel
theorem eX9_pull_16 : mn_dec cX9_pull 16 = some (19, [], .invokevirtual 155) := by decide +kernel
theorem eX9_pull_19 : mn_dec cX9_pull 19 = some (22, [30], .ifCond .eq 11) := by decide +kernel
theorem eX9_pull_22 : mn_dec cX9_pull 22 = some (23, [], .aload 0) := by decide +kernel
theorem eX9_pull_23 : mn_dec cX9_pull 23 = some (26, [], .getfield 149) := by decide +kernel
theorem eX9_pull_26 : mn_dec cX9_pull 26 = some (27, [], .iconst 2) := by decide +kernel
theorem eX9_pull_27 : mn_dec cX9_pull 27 = some (30, [33], .if_icmp .ge 6) := by decide +kernel
theorem eX9_pull_30 : mn_dec cX9_pull 30 = some (32, [], .iconst (-5)) := by decide +kernel
theorem eX9_pull_32 : mn_dec cX9_pull 32 = some (33, [], .ireturn) := by decide +kernel
theorem eX9_pull_33 : mn_dec cX9_pull 33 = some (35, [], .iconst (-6)) := by decide +kernel
theorem eX9_pull_35 : mn_dec cX9_pull 35 = some (36, [], .istore 2) := by decide +kernel
theorem eX9_pull_36 : mn_dec cX9_pull 36 = some (37, [], .lconst 0) := by decide +kernel
theorem eX9_pull_37 : mn_dec cX9_pull 37 = some (38, [], .lstore 3) := by decide +kernel
theorem eX9_pull_38 : mn_dec cX9_pull 38 = some (39, [], .lconst 1) := by decide +kernel
theorem eX9_pull_39 : mn_dec cX9_pull 39 = some (41, [], .lstore 5) := by decide +kernel
theorem eX9_pull_41 : mn_dec cX9_pull 41 = some (42, [], .iconst 0) := by decide +kernel
theorem eX9_pull_42 : mn_dec cX9_pull 42 = some (44, [], .istore 7) := by decide +kernel
theorem eX9_pull_44 : mn_dec cX9_pull 44 = some (46, [], .iload 7) := by decide +kernel
theorem eX9_pull_46 : mn_dec cX9_pull 46 = some (47, [], .aload 0) := by decide +kernel
theorem eX9_pull_47 : mn_dec cX9_pull 47 = some (50, [], .getfield 58) := by decide +kernel
theorem eX9_pull_50 : mn_dec cX9_pull 50 = some (53, [191], .if_icmp .ge 141) := by decide +kernel
theorem eX9_pull_53 : mn_dec cX9_pull 53 = some (54, [], .aload 0) := by decide +kernel
theorem eX9_pull_54 : mn_dec cX9_pull 54 = some (57, [], .getfield 13) := by decide +kernel
theorem eX9_pull_57 : mn_dec cX9_pull 57 = some (59, [], .iload 7) := by decide +kernel
theorem eX9_pull_59 : mn_dec cX9_pull 59 = some (60, [], .baload) := by decide +kernel
theorem eX9_pull_60 : mn_dec cX9_pull 60 = some (63, [185], .ifCond .ne 125) := by decide +kernel
theorem eX9_pull_63 : mn_dec cX9_pull 63 = some (64, [], .aload 0) := by decide +kernel
theorem eX9_pull_64 : mn_dec cX9_pull 64 = some (67, [], .getfield 7) := by decide +kernel
theorem eX9_pull_67 : mn_dec cX9_pull 67 = some (69, [], .iload 7) := by decide +kernel
theorem eX9_pull_69 : mn_dec cX9_pull 69 = some (70, [], .iaload) := by decide +kernel
theorem eX9_pull_70 : mn_dec cX9_pull 70 = some (72, [], .istore 8) := by decide +kernel
theorem eX9_pull_72 : mn_dec cX9_pull 72 = some (73, [], .aload 0) := by decide +kernel
theorem eX9_pull_73 : mn_dec cX9_pull 73 = some (76, [], .getfield 13) := by decide +kernel
theorem eX9_pull_76 : mn_dec cX9_pull 76 = some (78, [], .iload 7) := by decide +kernel
theorem eX9_pull_78 : mn_dec cX9_pull 78 = some (79, [], .iconst 1) := by decide +kernel
theorem eX9_pull_79 : mn_dec cX9_pull 79 = some (80, [], .bastore) := by decide +kernel
theorem eX9_pull_80 : mn_dec cX9_pull 80 = some (81, [], .aload 0) := by decide +kernel
theorem eX9_pull_81 : mn_dec cX9_pull 81 = some (84, [], .getfield 7) := by decide +kernel
theorem eX9_pull_84 : mn_dec cX9_pull 84 = some (86, [], .iload 7) := by decide +kernel
theorem eX9_pull_86 : mn_dec cX9_pull 86 = some (87, [], .iload 1) := by decide +kernel
theorem eX9_pull_87 : mn_dec cX9_pull 87 = some (88, [], .iastore) := by decide +kernel
theorem eX9_pull_88 : mn_dec cX9_pull 88 = some (89, [], .aload 0) := by decide +kernel
theorem eX9_pull_89 : mn_dec cX9_pull 89 = some (92, [], .invokevirtual 168) := by decide +kernel
theorem eX9_pull_92 : mn_dec cX9_pull 92 = some (94, [], .istore 9) := by decide +kernel
theorem eX9_pull_94 : mn_dec cX9_pull 94 = some (95, [], .lconst 0) := by decide +kernel
theorem eX9_pull_95 : mn_dec cX9_pull 95 = some (97, [], .lstore 10) := by decide +kernel
theorem eX9_pull_97 : mn_dec cX9_pull 97 = some (98, [], .iconst 0) := by decide +kernel
theorem eX9_pull_98 : mn_dec cX9_pull 98 = some (100, [], .istore 12) := by decide +kernel
theorem eX9_pull_100 : mn_dec cX9_pull 100 = some (102, [], .iload 12) := by decide +kernel
theorem eX9_pull_102 : mn_dec cX9_pull 102 = some (103, [], .aload 0) := by decide +kernel
theorem eX9_pull_103 : mn_dec cX9_pull 103 = some (106, [], .getfield 58) := by decide +kernel
theorem eX9_pull_106 : mn_dec cX9_pull 106 = some (109, [132], .if_icmp .ge 26) := by decide +kernel
theorem eX9_pull_109 : mn_dec cX9_pull 109 = some (111, [], .iload 9) := by decide +kernel
theorem eX9_pull_111 : mn_dec cX9_pull 111 = some (114, [132], .ifCond .eq 21) := by decide +kernel
theorem eX9_pull_114 : mn_dec cX9_pull 114 = some (116, [], .lload 10) := by decide +kernel
theorem eX9_pull_116 : mn_dec cX9_pull 116 = some (117, [], .aload 0) := by decide +kernel
theorem eX9_pull_117 : mn_dec cX9_pull 117 = some (120, [], .getfield 49) := by decide +kernel
theorem eX9_pull_120 : mn_dec cX9_pull 120 = some (122, [], .iload 12) := by decide +kernel
theorem eX9_pull_122 : mn_dec cX9_pull 122 = some (123, [], .laload) := by decide +kernel
theorem eX9_pull_123 : mn_dec cX9_pull 123 = some (124, [], .ladd) := by decide +kernel
theorem eX9_pull_124 : mn_dec cX9_pull 124 = some (126, [], .lstore 10) := by decide +kernel
theorem eX9_pull_126 : mn_dec cX9_pull 126 = some (129, [], .iinc 12 1) := by decide +kernel
theorem eX9_pull_129 : mn_dec cX9_pull 129 = some (132, [100], .goto (-29)) := by decide +kernel
theorem eX9_pull_132 : mn_dec cX9_pull 132 = some (134, [], .iload 9) := by decide +kernel
theorem eX9_pull_134 : mn_dec cX9_pull 134 = some (137, [168], .ifCond .eq 34) := by decide +kernel
theorem eX9_pull_137 : mn_dec cX9_pull 137 = some (138, [], .iload 2) := by decide +kernel
theorem eX9_pull_138 : mn_dec cX9_pull 138 = some (141, [156], .ifCond .lt 18) := by decide +kernel
theorem eX9_pull_141 : mn_dec cX9_pull 141 = some (143, [], .lload 10) := by decide +kernel
theorem eX9_pull_143 : mn_dec cX9_pull 143 = some (144, [], .aload 0) := by decide +kernel
theorem eX9_pull_144 : mn_dec cX9_pull 144 = some (147, [], .getfield 161) := by decide +kernel
theorem eX9_pull_147 : mn_dec cX9_pull 147 = some (148, [], .lload 3) := by decide +kernel
theorem eX9_pull_148 : mn_dec cX9_pull 148 = some (150, [], .lload 5) := by decide +kernel
theorem eX9_pull_150 : mn_dec cX9_pull 150 = some (153, [], .invokestatic 171) := by decide +kernel
theorem eX9_pull_153 : mn_dec cX9_pull 153 = some (156, [168], .ifCond .eq 15) := by decide +kernel
theorem eX9_pull_156 : mn_dec cX9_pull 156 = some (158, [], .iload 7) := by decide +kernel
theorem eX9_pull_158 : mn_dec cX9_pull 158 = some (159, [], .istore 2) := by decide +kernel
theorem eX9_pull_159 : mn_dec cX9_pull 159 = some (161, [], .lload 10) := by decide +kernel
theorem eX9_pull_161 : mn_dec cX9_pull 161 = some (162, [], .lstore 3) := by decide +kernel
theorem eX9_pull_162 : mn_dec cX9_pull 162 = some (163, [], .aload 0) := by decide +kernel
theorem eX9_pull_163 : mn_dec cX9_pull 163 = some (166, [], .getfield 161) := by decide +kernel
theorem eX9_pull_166 : mn_dec cX9_pull 166 = some (168, [], .lstore 5) := by decide +kernel
theorem eX9_pull_168 : mn_dec cX9_pull 168 = some (169, [], .aload 0) := by decide +kernel
theorem eX9_pull_169 : mn_dec cX9_pull 169 = some (172, [], .getfield 13) := by decide +kernel
theorem eX9_pull_172 : mn_dec cX9_pull 172 = some (174, [], .iload 7) := by decide +kernel
theorem eX9_pull_174 : mn_dec cX9_pull 174 = some (175, [], .iconst 0) := by decide +kernel
theorem eX9_pull_175 : mn_dec cX9_pull 175 = some (176, [], .bastore) := by decide +kernel
theorem eX9_pull_176 : mn_dec cX9_pull 176 = some (177, [], .aload 0) := by decide +kernel
theorem eX9_pull_177 : mn_dec cX9_pull 177 = some (180, [], .getfield 7) := by decide +kernel
theorem eX9_pull_180 : mn_dec cX9_pull 180 = some (182, [], .iload 7) := by decide +kernel
theorem eX9_pull_182 : mn_dec cX9_pull 182 = some (184, [], .iload 8) := by decide +kernel
theorem eX9_pull_184 : mn_dec cX9_pull 184 = some (185, [], .iastore) := by decide +kernel
theorem eX9_pull_185 : mn_dec cX9_pull 185 = some (188, [], .iinc 7 1) := by decide +kernel
theorem eX9_pull_188 : mn_dec cX9_pull 188 = some (191, [44], .goto (-144)) := by decide +kernel
theorem eX9_pull_191 : mn_dec cX9_pull 191 = some (192, [], .iload 2) := by decide +kernel
theorem eX9_pull_192 : mn_dec cX9_pull 192 = some (193, [], .ireturn) := by decide +kernel
theorem eX9_talks_0 : mn_dec cX9_talks 0 = some (1, [], .aload 0) := by decide +kernel
theorem eX9_talks_1 : mn_dec cX9_talks 1 = some (4, [], .getfield 7) := by decide +kernel
theorem eX9_talks_4 : mn_dec cX9_talks 4 = some (5, [], .iload 1) := by decide +kernel
theorem eX9_talks_5 : mn_dec cX9_talks 5 = some (6, [], .iaload) := by decide +kernel
theorem eX9_talks_6 : mn_dec cX9_talks 6 = some (7, [], .aload 0) := by decide +kernel
theorem eX9_talks_7 : mn_dec cX9_talks 7 = some (10, [], .getfield 7) := by decide +kernel
theorem eX9_talks_10 : mn_dec cX9_talks 10 = some (11, [], .iload 2) := by decide +kernel
theorem eX9_talks_11 : mn_dec cX9_talks 11 = some (12, [], .iaload) := by decide +kernel
theorem eX9_talks_12 : mn_dec cX9_talks 12 = some (13, [], .iadd) := by decide +kernel
theorem eX9_talks_13 : mn_dec cX9_talks 13 = some (14, [], .istore 3) := by decide +kernel
theorem eX9_talks_14 : mn_dec cX9_talks 14 = some (15, [], .aload 0) := by decide +kernel
theorem eX9_talks_15 : mn_dec cX9_talks 15 = some (18, [], .getfield 7) := by decide +kernel
theorem eX9_talks_18 : mn_dec cX9_talks 18 = some (19, [], .iload 1) := by decide +kernel
theorem eX9_talks_19 : mn_dec cX9_talks 19 = some (20, [], .iaload) := by decide +kernel
theorem eX9_talks_20 : mn_dec cX9_talks 20 = some (21, [], .aload 0) := by decide +kernel
theorem eX9_talks_21 : mn_dec cX9_talks 21 = some (24, [], .getfield 7) := by decide +kernel
theorem eX9_talks_24 : mn_dec cX9_talks 24 = some (25, [], .iload 2) := by decide +kernel
theorem eX9_talks_25 : mn_dec cX9_talks 25 = some (26, [], .iaload) := by decide +kernel
theorem eX9_talks_26 : mn_dec cX9_talks 26 = some (29, [49], .if_icmp .lt 23) := by decide +kernel
theorem eX9_talks_29 : mn_dec cX9_talks 29 = some (30, [], .aload 0) := by decide +kernel
theorem eX9_talks_30 : mn_dec cX9_talks 30 = some (33, [], .getfield 7) := by decide +kernel
theorem eX9_talks_33 : mn_dec cX9_talks 33 = some (34, [], .iload 1) := by decide +kernel
theorem eX9_talks_34 : mn_dec cX9_talks 34 = some (35, [], .iaload) := by decide +kernel
theorem eX9_talks_35 : mn_dec cX9_talks 35 = some (36, [], .aload 0) := by decide +kernel
theorem eX9_talks_36 : mn_dec cX9_talks 36 = some (39, [], .getfield 7) := by decide +kernel
theorem eX9_talks_39 : mn_dec cX9_talks 39 = some (40, [], .iload 2) := by decide +kernel
theorem eX9_talks_40 : mn_dec cX9_talks 40 = some (41, [], .iaload) := by decide +kernel
theorem eX9_talks_41 : mn_dec cX9_talks 41 = some (44, [53], .if_icmp .ne 12) := by decide +kernel
theorem eX9_talks_44 : mn_dec cX9_talks 44 = some (45, [], .iload 1) := by decide +kernel
theorem eX9_talks_45 : mn_dec cX9_talks 45 = some (46, [], .iload 2) := by decide +kernel
theorem eX9_talks_46 : mn_dec cX9_talks 46 = some (49, [53], .if_icmp .ge 7) := by decide +kernel
theorem eX9_talks_49 : mn_dec cX9_talks 49 = some (50, [], .iconst 1) := by decide +kernel
theorem eX9_talks_50 : mn_dec cX9_talks 50 = some (53, [54], .goto 4) := by decide +kernel
theorem eX9_talks_53 : mn_dec cX9_talks 53 = some (54, [], .iconst 0) := by decide +kernel
theorem eX9_talks_54 : mn_dec cX9_talks 54 = some (56, [], .istore 4) := by decide +kernel
theorem eX9_talks_56 : mn_dec cX9_talks 56 = some (57, [], .aload 0) := by decide +kernel
theorem eX9_talks_57 : mn_dec cX9_talks 57 = some (60, [], .getfield 7) := by decide +kernel
theorem eX9_talks_60 : mn_dec cX9_talks 60 = some (61, [], .iload 1) := by decide +kernel
theorem eX9_talks_61 : mn_dec cX9_talks 61 = some (63, [], .iload 4) := by decide +kernel
theorem eX9_talks_63 : mn_dec cX9_talks 63 = some (66, [72], .ifCond .eq 9) := by decide +kernel
theorem eX9_talks_66 : mn_dec cX9_talks 66 = some (67, [], .iload 3) := by decide +kernel
theorem eX9_talks_67 : mn_dec cX9_talks 67 = some (68, [], .iconst 2) := by decide +kernel
theorem eX9_talks_68 : mn_dec cX9_talks 68 = some (69, [], .idiv) := by decide +kernel
theorem eX9_talks_69 : mn_dec cX9_talks 69 = some (72, [77], .goto 8) := by decide +kernel
theorem eX9_talks_72 : mn_dec cX9_talks 72 = some (73, [], .iload 3) := by decide +kernel
theorem eX9_talks_73 : mn_dec cX9_talks 73 = some (74, [], .iload 3) := by decide +kernel
theorem eX9_talks_74 : mn_dec cX9_talks 74 = some (75, [], .iconst 2) := by decide +kernel
theorem eX9_talks_75 : mn_dec cX9_talks 75 = some (76, [], .idiv) := by decide +kernel
theorem eX9_talks_76 : mn_dec cX9_talks 76 = some (77, [], .isub) := by decide +kernel
theorem eX9_talks_77 : mn_dec cX9_talks 77 = some (78, [], .iastore) := by decide +kernel
theorem eX9_talks_78 : mn_dec cX9_talks 78 = some (79, [], .aload 0) := by decide +kernel
theorem eX9_talks_79 : mn_dec cX9_talks 79 = some (82, [], .getfield 7) := by decide +kernel
theorem eX9_talks_82 : mn_dec cX9_talks 82 = some (83, [], .iload 2) := by decide +kernel
theorem eX9_talks_83 : mn_dec cX9_talks 83 = some (85, [], .iload 4) := by decide +kernel
theorem eX9_talks_85 : mn_dec cX9_talks 85 = some (88, [96], .ifCond .eq 11) := by decide +kernel
theorem eX9_talks_88 : mn_dec cX9_talks 88 = some (89, [], .iload 3) := by decide +kernel
theorem eX9_talks_89 : mn_dec cX9_talks 89 = some (90, [], .iload 3) := by decide +kernel
theorem eX9_talks_90 : mn_dec cX9_talks 90 = some (91, [], .iconst 2) := by decide +kernel
theorem eX9_talks_91 : mn_dec cX9_talks 91 = some (92, [], .idiv) := by decide +kernel
theorem eX9_talks_92 : mn_dec cX9_talks 92 = some (93, [], .isub) := by decide +kernel
theorem eX9_talks_93 : mn_dec cX9_talks 93 = some (96, [99], .goto 6) := by decide +kernel
theorem eX9_talks_96 : mn_dec cX9_talks 96 = some (97, [], .iload 3) := by decide +kernel
theorem eX9_talks_97 : mn_dec cX9_talks 97 = some (98, [], .iconst 2) := by decide +kernel
theorem eX9_talks_98 : mn_dec cX9_talks 98 = some (99, [], .idiv) := by decide +kernel
theorem eX9_talks_99 : mn_dec cX9_talks 99 = some (100, [], .iastore) := by decide +kernel
theorem eX9_talks_100 : mn_dec cX9_talks 100 = some (101, [], .return_) := by decide +kernel
theorem eX9_talk_0 : mn_dec cX9_talk 0 = some (1, [], .aload 0) := by decide +kernel
theorem eX9_talk_1 : mn_dec cX9_talk 1 = some (2, [], .iload 1) := by decide +kernel
theorem eX9_talk_2 : mn_dec cX9_talk 2 = some (5, [], .invokevirtual 67) := by decide +kernel
theorem eX9_talk_5 : mn_dec cX9_talk 5 = some (8, [21], .ifCond .eq 16) := by decide +kernel
theorem eX9_talk_8 : mn_dec cX9_talk 8 = some (9, [], .aload 0) := by decide +kernel
theorem eX9_talk_9 : mn_dec cX9_talk 9 = some (10, [], .iload 2) := by decide +kernel
theorem eX9_talk_10 : mn_dec cX9_talk 10 = some (13, [], .invokevirtual 67) := by decide +kernel
theorem eX9_talk_13 : mn_dec cX9_talk 13 = some (16, [21], .ifCond .eq 8) := by decide +kernel
theorem eX9_talk_16 : mn_dec cX9_talk 16 = some (17, [], .iload 1) := by decide +kernel
theorem eX9_talk_17 : mn_dec cX9_talk 17 = some (18, [], .iload 2) := by decide +kernel
theorem eX9_talk_18 : mn_dec cX9_talk 18 = some (21, [23], .if_icmp .ne 5) := by decide +kernel
theorem eX9_talk_21 : mn_dec cX9_talk 21 = some (22, [], .iconst (-1)) := by decide +kernel
theorem eX9_talk_22 : mn_dec cX9_talk 22 = some (23, [], .ireturn) := by decide +kernel
theorem eX9_talk_23 : mn_dec cX9_talk 23 = some (24, [], .aload 0) := by decide +kernel
theorem eX9_talk_24 : mn_dec cX9_talk 24 = some (27, [], .getfield 7) := by decide +kernel
theorem eX9_talk_27 : mn_dec cX9_talk 27 = some (28, [], .iload 1) := by decide +kernel
theorem eX9_talk_28 : mn_dec cX9_talk 28 = some (29, [], .iaload) := by decide +kernel
theorem eX9_talk_29 : mn_dec cX9_talk 29 = some (30, [], .aload 0) := by decide +kernel
theorem eX9_talk_30 : mn_dec cX9_talk 30 = some (33, [], .getfield 7) := by decide +kernel
theorem eX9_talk_33 : mn_dec cX9_talk 33 = some (34, [], .iload 2) := by decide +kernel
theorem eX9_talk_34 : mn_dec cX9_talk 34 = some (35, [], .iaload) := by decide +kernel
theorem eX9_talk_35 : mn_dec cX9_talk 35 = some (36, [], .isub) := by decide +kernel
theorem eX9_talk_36 : mn_dec cX9_talk 36 = some (39, [], .invokestatic 77) := by decide +kernel
theorem eX9_talk_39 : mn_dec cX9_talk 39 = some (40, [], .istore 3) := by decide +kernel
theorem eX9_talk_40 : mn_dec cX9_talk 40 = some (41, [], .aload 0) := by decide +kernel
theorem eX9_talk_41 : mn_dec cX9_talk 41 = some (42, [], .iload 1) := by decide +kernel
theorem eX9_talk_42 : mn_dec cX9_talk 42 = some (43, [], .iload 2) := by decide +kernel
theorem eX9_talk_43 : mn_dec cX9_talk 43 = some (46, [], .invokevirtual 175) := by decide +kernel
theorem eX9_talk_46 : mn_dec cX9_talk 46 = some (47, [], .iload 3) := by decide +kernel
theorem eX9_talk_47 : mn_dec cX9_talk 47 = some (48, [], .ireturn) := by decide +kernel
theorem eX9_isNew_0 : mn_dec cX9_isNew 0 = some (1, [], .iconst 0) := by decide +kernel
theorem eX9_isNew_1 : mn_dec cX9_isNew 1 = some (2, [], .istore 2) := by decide +kernel
theorem eX9_isNew_2 : mn_dec cX9_isNew 2 = some (3, [], .iload 2) := by decide +kernel
theorem eX9_isNew_3 : mn_dec cX9_isNew 3 = some (4, [], .aload 0) := by decide +kernel
theorem eX9_isNew_4 : mn_dec cX9_isNew 4 = some (7, [], .getfield 179) := by decide +kernel
theorem eX9_isNew_7 : mn_dec cX9_isNew 7 = some (10, [70], .if_icmp .ge 63) := by decide +kernel
theorem eX9_isNew_10 : mn_dec cX9_isNew 10 = some (11, [], .iconst 1) := by decide +kernel
theorem eX9_isNew_11 : mn_dec cX9_isNew 11 = some (12, [], .istore 3) := by decide +kernel
theorem eX9_isNew_12 : mn_dec cX9_isNew 12 = some (13, [], .iconst 0) := by decide +kernel
theorem eX9_isNew_13 : mn_dec cX9_isNew 13 = some (15, [], .istore 4) := by decide +kernel
theorem eX9_isNew_15 : mn_dec cX9_isNew 15 = some (17, [], .iload 4) := by decide +kernel
theorem eX9_isNew_17 : mn_dec cX9_isNew 17 = some (18, [], .iload 1) := by decide +kernel
theorem eX9_isNew_18 : mn_dec cX9_isNew 18 = some (21, [58], .if_icmp .ge 40) := by decide +kernel
theorem eX9_isNew_21 : mn_dec cX9_isNew 21 = some (22, [], .iload 3) := by decide +kernel
theorem eX9_isNew_22 : mn_dec cX9_isNew 22 = some (25, [58], .ifCond .eq 36) := by decide +kernel
theorem eX9_isNew_25 : mn_dec cX9_isNew 25 = some (26, [], .aload 0) := by decide +kernel
theorem eX9_isNew_26 : mn_dec cX9_isNew 26 = some (29, [], .getfield 52) := by decide +kernel
theorem eX9_isNew_29 : mn_dec cX9_isNew 29 = some (30, [], .iconst 4) := by decide +kernel
theorem eX9_isNew_30 : mn_dec cX9_isNew 30 = some (31, [], .iload 2) := by decide +kernel
theorem eX9_isNew_31 : mn_dec cX9_isNew 31 = some (32, [], .imul) := by decide +kernel
theorem eX9_isNew_32 : mn_dec cX9_isNew 32 = some (34, [], .iload 4) := by decide +kernel
theorem eX9_isNew_34 : mn_dec cX9_isNew 34 = some (35, [], .iadd) := by decide +kernel
theorem eX9_isNew_35 : mn_dec cX9_isNew 35 = some (36, [], .iaload) := by decide +kernel
theorem eX9_isNew_36 : mn_dec cX9_isNew 36 = some (37, [], .aload 0) := by decide +kernel
theorem eX9_isNew_37 : mn_dec cX9_isNew 37 = some (40, [], .getfield 7) := by decide +kernel
theorem eX9_isNew_40 : mn_dec cX9_isNew 40 = some (42, [], .iload 4) := by decide +kernel
theorem eX9_isNew_42 : mn_dec cX9_isNew 42 = some (43, [], .iaload) := by decide +kernel
theorem eX9_isNew_43 : mn_dec cX9_isNew 43 = some (46, [50], .if_icmp .ne 7) := by decide +kernel
theorem eX9_isNew_46 : mn_dec cX9_isNew 46 = some (47, [], .iconst 1) := by decide +kernel
theorem eX9_isNew_47 : mn_dec cX9_isNew 47 = some (50, [51], .goto 4) := by decide +kernel
theorem eX9_isNew_50 : mn_dec cX9_isNew 50 = some (51, [], .iconst 0) := by decide +kernel
theorem eX9_isNew_51 : mn_dec cX9_isNew 51 = some (52, [], .istore 3) := by decide +kernel
theorem eX9_isNew_52 : mn_dec cX9_isNew 52 = some (55, [], .iinc 4 1) := by decide +kernel
theorem eX9_isNew_55 : mn_dec cX9_isNew 55 = some (58, [15], .goto (-40)) := by decide +kernel
theorem eX9_isNew_58 : mn_dec cX9_isNew 58 = some (59, [], .iload 3) := by decide +kernel
theorem eX9_isNew_59 : mn_dec cX9_isNew 59 = some (62, [64], .ifCond .eq 5) := by decide +kernel
theorem eX9_isNew_62 : mn_dec cX9_isNew 62 = some (63, [], .iconst 0) := by decide +kernel
theorem eX9_isNew_63 : mn_dec cX9_isNew 63 = some (64, [], .ireturn) := by decide +kernel
theorem eX9_isNew_64 : mn_dec cX9_isNew 64 = some (67, [], .iinc 2 1) := by decide +kernel
theorem eX9_isNew_67 : mn_dec cX9_isNew 67 = some (70, [2], .goto (-65)) := by decide +kernel
theorem eX9_isNew_70 : mn_dec cX9_isNew 70 = some (71, [], .iconst 1) := by decide +kernel
theorem eX9_isNew_71 : mn_dec cX9_isNew 71 = some (72, [], .ireturn) := by decide +kernel
theorem eX9_enter_0 : mn_dec cX9_enter 0 = some (1, [], .iconst 0) := by decide +kernel
theorem eX9_enter_1 : mn_dec cX9_enter 1 = some (2, [], .istore 3) := by decide +kernel
theorem eX9_enter_2 : mn_dec cX9_enter 2 = some (3, [], .iload 3) := by decide +kernel
theorem eX9_enter_3 : mn_dec cX9_enter 3 = some (4, [], .iload 1) := by decide +kernel
theorem eX9_enter_4 : mn_dec cX9_enter 4 = some (7, [32], .if_icmp .ge 28) := by decide +kernel
theorem eX9_enter_7 : mn_dec cX9_enter 7 = some (8, [], .aload 0) := by decide +kernel
theorem eX9_enter_8 : mn_dec cX9_enter 8 = some (11, [], .getfield 52) := by decide +kernel
theorem eX9_enter_11 : mn_dec cX9_enter 11 = some (12, [], .iconst 4) := by decide +kernel
theorem eX9_enter_12 : mn_dec cX9_enter 12 = some (13, [], .aload 0) := by decide +kernel
theorem eX9_enter_13 : mn_dec cX9_enter 13 = some (16, [], .getfield 179) := by decide +kernel
theorem eX9_enter_16 : mn_dec cX9_enter 16 = some (17, [], .imul) := by decide +kernel
theorem eX9_enter_17 : mn_dec cX9_enter 17 = some (18, [], .iload 3) := by decide +kernel
theorem eX9_enter_18 : mn_dec cX9_enter 18 = some (19, [], .iadd) := by decide +kernel
theorem eX9_enter_19 : mn_dec cX9_enter 19 = some (20, [], .aload 0) := by decide +kernel
theorem eX9_enter_20 : mn_dec cX9_enter 20 = some (23, [], .getfield 7) := by decide +kernel
theorem eX9_enter_23 : mn_dec cX9_enter 23 = some (24, [], .iload 3) := by decide +kernel
theorem eX9_enter_24 : mn_dec cX9_enter 24 = some (25, [], .iaload) := by decide +kernel
theorem eX9_enter_25 : mn_dec cX9_enter 25 = some (26, [], .iastore) := by decide +kernel
theorem eX9_enter_26 : mn_dec cX9_enter 26 = some (29, [], .iinc 3 1) := by decide +kernel
theorem eX9_enter_29 : mn_dec cX9_enter 29 = some (32, [2], .goto (-27)) := by decide +kernel
theorem eX9_enter_32 : mn_dec cX9_enter 32 = some (33, [], .aload 0) := by decide +kernel
theorem eX9_enter_33 : mn_dec cX9_enter 33 = some (36, [], .getfield 55) := by decide +kernel
theorem eX9_enter_36 : mn_dec cX9_enter 36 = some (37, [], .aload 0) := by decide +kernel
theorem eX9_enter_37 : mn_dec cX9_enter 37 = some (40, [], .getfield 179) := by decide +kernel
theorem eX9_enter_40 : mn_dec cX9_enter 40 = some (41, [], .iload 2) := by decide +kernel
theorem eX9_enter_41 : mn_dec cX9_enter 41 = some (42, [], .iastore) := by decide +kernel
theorem eX9_enter_42 : mn_dec cX9_enter 42 = some (43, [], .aload 0) := by decide +kernel
theorem eX9_enter_43 : mn_dec cX9_enter 43 = some (44, [], .dup) := by decide +kernel
theorem eX9_enter_44 : mn_dec cX9_enter 44 = some (47, [], .getfield 179) := by decide +kernel
theorem eX9_enter_47 : mn_dec cX9_enter 47 = some (48, [], .iconst 1) := by decide +kernel
theorem eX9_enter_48 : mn_dec cX9_enter 48 = some (49, [], .iadd) := by decide +kernel
theorem eX9_enter_49 : mn_dec cX9_enter 49 = some (52, [], .putfield 179) := by decide +kernel
theorem eX9_enter_52 : mn_dec cX9_enter 52 = some (53, [], .return_) := by decide +kernel
theorem eX9_search_0 : mn_dec cX9_search 0 = some (1, [], .aload 0) := by decide +kernel
theorem eX9_search_1 : mn_dec cX9_search 1 = some (2, [], .iconst 0) := by decide +kernel
theorem eX9_search_2 : mn_dec cX9_search 2 = some (5, [], .putfield 179) := by decide +kernel
theorem eX9_search_5 : mn_dec cX9_search 5 = some (6, [], .aload 0) := by decide +kernel
theorem eX9_search_6 : mn_dec cX9_search 6 = some (7, [], .iload 1) := by decide +kernel
theorem eX9_search_7 : mn_dec cX9_search 7 = some (8, [], .iconst 0) := by decide +kernel
theorem eX9_search_8 : mn_dec cX9_search 8 = some (11, [], .invokevirtual 182) := by decide +kernel
theorem eX9_search_11 : mn_dec cX9_search 11 = some (12, [], .aload 0) := by decide +kernel
theorem eX9_search_12 : mn_dec cX9_search 12 = some (13, [], .iload 1) := by decide +kernel
theorem eX9_search_13 : mn_dec cX9_search 13 = some (16, [], .invokevirtual 98) := by decide +kernel
theorem eX9_search_16 : mn_dec cX9_search 16 = some (17, [], .iload 2) := by decide +kernel
theorem eX9_search_17 : mn_dec cX9_search 17 = some (20, [22], .if_icmp .gt 5) := by decide +kernel
theorem eX9_search_20 : mn_dec cX9_search 20 = some (21, [], .iconst 0) := by decide +kernel
theorem eX9_search_21 : mn_dec cX9_search 21 = some (22, [], .ireturn) := by decide +kernel
theorem eX9_search_22 : mn_dec cX9_search 22 = some (23, [], .iconst 0) := by decide +kernel
theorem eX9_search_23 : mn_dec cX9_search 23 = some (24, [], .istore 3) := by decide +kernel
theorem eX9_search_24 : mn_dec cX9_search 24 = some (25, [], .iload 3) := by decide +kernel
theorem eX9_search_25 : mn_dec cX9_search 25 = some (26, [], .aload 0) := by decide +kernel
theorem eX9_search_26 : mn_dec cX9_search 26 = some (29, [], .getfield 179) := by decide +kernel
theorem eX9_search_29 : mn_dec cX9_search 29 = some (32, [164], .if_icmp .ge 135) := by decide +kernel
theorem eX9_search_32 : mn_dec cX9_search 32 = some (33, [], .iconst 0) := by decide +kernel
theorem eX9_search_33 : mn_dec cX9_search 33 = some (35, [], .istore 4) := by decide +kernel
theorem eX9_search_35 : mn_dec cX9_search 35 = some (37, [], .iload 4) := by decide +kernel
theorem eX9_search_37 : mn_dec cX9_search 37 = some (38, [], .iload 1) := by decide +kernel
theorem eX9_search_38 : mn_dec cX9_search 38 = some (41, [158], .if_icmp .ge 120) := by decide +kernel
theorem eX9_search_41 : mn_dec cX9_search 41 = some (43, [], .iload 4) := by decide +kernel
theorem eX9_search_43 : mn_dec cX9_search 43 = some (44, [], .iconst 1) := by decide +kernel
theorem eX9_search_44 : mn_dec cX9_search 44 = some (45, [], .iadd) := by decide +kernel
theorem eX9_search_45 : mn_dec cX9_search 45 = some (47, [], .istore 5) := by decide +kernel
theorem eX9_search_47 : mn_dec cX9_search 47 = some (49, [], .iload 5) := by decide +kernel
theorem eX9_search_49 : mn_dec cX9_search 49 = some (50, [], .iload 1) := by decide +kernel
theorem eX9_search_50 : mn_dec cX9_search 50 = some (53, [152], .if_icmp .ge 102) := by decide +kernel
theorem eX9_search_53 : mn_dec cX9_search 53 = some (54, [], .iconst 0) := by decide +kernel
theorem eX9_search_54 : mn_dec cX9_search 54 = some (56, [], .istore 6) := by decide +kernel
theorem eX9_search_56 : mn_dec cX9_search 56 = some (58, [], .iload 6) := by decide +kernel
theorem eX9_search_58 : mn_dec cX9_search 58 = some (59, [], .iload 1) := by decide +kernel
theorem eX9_search_59 : mn_dec cX9_search 59 = some (62, [86], .if_icmp .ge 27) := by decide +kernel
theorem eX9_search_62 : mn_dec cX9_search 62 = some (63, [], .aload 0) := by decide +kernel
theorem eX9_search_63 : mn_dec cX9_search 63 = some (66, [], .getfield 7) := by decide +kernel
theorem eX9_search_66 : mn_dec cX9_search 66 = some (68, [], .iload 6) := by decide +kernel
theorem eX9_search_68 : mn_dec cX9_search 68 = some (69, [], .aload 0) := by decide +kernel
theorem eX9_search_69 : mn_dec cX9_search 69 = some (72, [], .getfield 52) := by decide +kernel
theorem eX9_search_72 : mn_dec cX9_search 72 = some (73, [], .iconst 4) := by decide +kernel
theorem eX9_search_73 : mn_dec cX9_search 73 = some (74, [], .iload 3) := by decide +kernel
theorem eX9_search_74 : mn_dec cX9_search 74 = some (75, [], .imul) := by decide +kernel
theorem eX9_search_75 : mn_dec cX9_search 75 = some (77, [], .iload 6) := by decide +kernel
theorem eX9_search_77 : mn_dec cX9_search 77 = some (78, [], .iadd) := by decide +kernel
theorem eX9_search_78 : mn_dec cX9_search 78 = some (79, [], .iaload) := by decide +kernel
theorem eX9_search_79 : mn_dec cX9_search 79 = some (80, [], .iastore) := by decide +kernel
theorem eX9_search_80 : mn_dec cX9_search 80 = some (83, [], .iinc 6 1) := by decide +kernel
theorem eX9_search_83 : mn_dec cX9_search 83 = some (86, [56], .goto (-27)) := by decide +kernel
theorem eX9_search_86 : mn_dec cX9_search 86 = some (87, [], .aload 0) := by decide +kernel
theorem eX9_search_87 : mn_dec cX9_search 87 = some (89, [], .iload 4) := by decide +kernel
theorem eX9_search_89 : mn_dec cX9_search 89 = some (91, [], .iload 5) := by decide +kernel
theorem eX9_search_91 : mn_dec cX9_search 91 = some (94, [], .invokevirtual 175) := by decide +kernel
theorem eX9_search_94 : mn_dec cX9_search 94 = some (95, [], .aload 0) := by decide +kernel
theorem eX9_search_95 : mn_dec cX9_search 95 = some (96, [], .iload 1) := by decide +kernel
theorem eX9_search_96 : mn_dec cX9_search 96 = some (99, [], .invokevirtual 185) := by decide +kernel
theorem eX9_search_99 : mn_dec cX9_search 99 = some (102, [146], .ifCond .eq 47) := by decide +kernel
theorem eX9_search_102 : mn_dec cX9_search 102 = some (103, [], .aload 0) := by decide +kernel
theorem eX9_search_103 : mn_dec cX9_search 103 = some (106, [], .getfield 179) := by decide +kernel
theorem eX9_search_106 : mn_dec cX9_search 106 = some (109, [], .iconst 500) := by decide +kernel
theorem eX9_search_109 : mn_dec cX9_search 109 = some (112, [115], .if_icmp .ne 6) := by decide +kernel
theorem eX9_search_112 : mn_dec cX9_search 112 = some (114, [], .iconst (-7)) := by decide +kernel
theorem eX9_search_114 : mn_dec cX9_search 114 = some (115, [], .ireturn) := by decide +kernel
theorem eX9_search_115 : mn_dec cX9_search 115 = some (116, [], .aload 0) := by decide +kernel
theorem eX9_search_116 : mn_dec cX9_search 116 = some (117, [], .iload 1) := by decide +kernel
theorem eX9_search_117 : mn_dec cX9_search 117 = some (118, [], .aload 0) := by decide +kernel
theorem eX9_search_118 : mn_dec cX9_search 118 = some (121, [], .getfield 55) := by decide +kernel
theorem eX9_search_121 : mn_dec cX9_search 121 = some (122, [], .iload 3) := by decide +kernel
theorem eX9_search_122 : mn_dec cX9_search 122 = some (123, [], .iaload) := by decide +kernel
theorem eX9_search_123 : mn_dec cX9_search 123 = some (124, [], .iconst 1) := by decide +kernel
theorem eX9_search_124 : mn_dec cX9_search 124 = some (125, [], .iadd) := by decide +kernel
theorem eX9_search_125 : mn_dec cX9_search 125 = some (128, [], .invokevirtual 182) := by decide +kernel
theorem eX9_search_128 : mn_dec cX9_search 128 = some (129, [], .aload 0) := by decide +kernel
theorem eX9_search_129 : mn_dec cX9_search 129 = some (130, [], .iload 1) := by decide +kernel
theorem eX9_search_130 : mn_dec cX9_search 130 = some (133, [], .invokevirtual 98) := by decide +kernel
theorem eX9_search_133 : mn_dec cX9_search 133 = some (134, [], .iload 2) := by decide +kernel
theorem eX9_search_134 : mn_dec cX9_search 134 = some (137, [146], .if_icmp .gt 12) := by decide +kernel
theorem eX9_search_137 : mn_dec cX9_search 137 = some (138, [], .aload 0) := by decide +kernel
theorem eX9_search_138 : mn_dec cX9_search 138 = some (141, [], .getfield 55) := by decide +kernel
theorem eX9_search_141 : mn_dec cX9_search 141 = some (142, [], .iload 3) := by decide +kernel
theorem eX9_search_142 : mn_dec cX9_search 142 = some (143, [], .iaload) := by decide +kernel
theorem eX9_search_143 : mn_dec cX9_search 143 = some (144, [], .iconst 1) := by decide +kernel
theorem eX9_search_144 : mn_dec cX9_search 144 = some (145, [], .iadd) := by decide +kernel
theorem eX9_search_145 : mn_dec cX9_search 145 = some (146, [], .ireturn) := by decide +kernel
theorem eX9_search_146 : mn_dec cX9_search 146 = some (149, [], .iinc 5 1) := by decide +kernel
theorem eX9_search_149 : mn_dec cX9_search 149 = some (152, [47], .goto (-102)) := by decide +kernel
theorem eX9_search_152 : mn_dec cX9_search 152 = some (155, [], .iinc 4 1) := by decide +kernel
theorem eX9_search_155 : mn_dec cX9_search 155 = some (158, [35], .goto (-120)) := by decide +kernel
theorem eX9_search_158 : mn_dec cX9_search 158 = some (161, [], .iinc 3 1) := by decide +kernel
theorem eX9_search_161 : mn_dec cX9_search 161 = some (164, [24], .goto (-137)) := by decide +kernel
theorem eX9_search_164 : mn_dec cX9_search 164 = some (166, [], .iconst (-6)) := by decide +kernel
theorem eX9_search_166 : mn_dec cX9_search 166 = some (167, [], .ireturn) := by decide +kernel
theorem eX9_fewest_0 : mn_dec cX9_fewest 0 = some (1, [], .iload 1) := by decide +kernel
theorem eX9_fewest_1 : mn_dec cX9_fewest 1 = some (2, [], .i2l) := by decide +kernel
theorem eX9_fewest_2 : mn_dec cX9_fewest 2 = some (5, [], .ldc2_w 121) := by decide +kernel
theorem eX9_fewest_5 : mn_dec cX9_fewest 5 = some (8, [], .ldc2_w 188) := by decide +kernel
theorem eX9_fewest_8 : mn_dec cX9_fewest 8 = some (11, [], .invokestatic 61) := by decide +kernel
theorem eX9_fewest_11 : mn_dec cX9_fewest 11 = some (14, [26], .ifCond .eq 15) := by decide +kernel
theorem eX9_fewest_14 : mn_dec cX9_fewest 14 = some (15, [], .iload 2) := by decide +kernel
theorem eX9_fewest_15 : mn_dec cX9_fewest 15 = some (16, [], .i2l) := by decide +kernel
theorem eX9_fewest_16 : mn_dec cX9_fewest 16 = some (17, [], .lconst 0) := by decide +kernel
theorem eX9_fewest_17 : mn_dec cX9_fewest 17 = some (20, [], .ldc2_w 65) := by decide +kernel
theorem eX9_fewest_20 : mn_dec cX9_fewest 20 = some (23, [], .invokestatic 61) := by decide +kernel
theorem eX9_fewest_23 : mn_dec cX9_fewest 23 = some (26, [29], .ifCond .ne 6) := by decide +kernel
theorem eX9_fewest_26 : mn_dec cX9_fewest 26 = some (28, [], .iconst (-2)) := by decide +kernel
theorem eX9_fewest_28 : mn_dec cX9_fewest 28 = some (29, [], .ireturn) := by decide +kernel
theorem eX9_fewest_29 : mn_dec cX9_fewest 29 = some (30, [], .aload 0) := by decide +kernel
theorem eX9_fewest_30 : mn_dec cX9_fewest 30 = some (33, [], .getfield 58) := by decide +kernel
theorem eX9_fewest_33 : mn_dec cX9_fewest 33 = some (34, [], .iload 1) := by decide +kernel
theorem eX9_fewest_34 : mn_dec cX9_fewest 34 = some (37, [39], .if_icmp .ge 5) := by decide +kernel
theorem eX9_fewest_37 : mn_dec cX9_fewest 37 = some (38, [], .iconst (-1)) := by decide +kernel
theorem eX9_fewest_38 : mn_dec cX9_fewest 38 = some (39, [], .ireturn) := by decide +kernel
theorem eX9_fewest_39 : mn_dec cX9_fewest 39 = some (40, [], .iconst 0) := by decide +kernel
theorem eX9_fewest_40 : mn_dec cX9_fewest 40 = some (41, [], .istore 3) := by decide +kernel
theorem eX9_fewest_41 : mn_dec cX9_fewest 41 = some (42, [], .iload 3) := by decide +kernel
theorem eX9_fewest_42 : mn_dec cX9_fewest 42 = some (43, [], .iload 1) := by decide +kernel
theorem eX9_fewest_43 : mn_dec cX9_fewest 43 = some (46, [64], .if_icmp .ge 21) := by decide +kernel
theorem eX9_fewest_46 : mn_dec cX9_fewest 46 = some (47, [], .aload 0) := by decide +kernel
theorem eX9_fewest_47 : mn_dec cX9_fewest 47 = some (50, [], .getfield 33) := by decide +kernel
theorem eX9_fewest_50 : mn_dec cX9_fewest 50 = some (51, [], .iload 3) := by decide +kernel
theorem eX9_fewest_51 : mn_dec cX9_fewest 51 = some (52, [], .aload 0) := by decide +kernel
theorem eX9_fewest_52 : mn_dec cX9_fewest 52 = some (55, [], .getfield 7) := by decide +kernel
theorem eX9_fewest_55 : mn_dec cX9_fewest 55 = some (56, [], .iload 3) := by decide +kernel
theorem eX9_fewest_56 : mn_dec cX9_fewest 56 = some (57, [], .iaload) := by decide +kernel
theorem eX9_fewest_57 : mn_dec cX9_fewest 57 = some (58, [], .iastore) := by decide +kernel
theorem eX9_fewest_58 : mn_dec cX9_fewest 58 = some (61, [], .iinc 3 1) := by decide +kernel
theorem eX9_fewest_61 : mn_dec cX9_fewest 61 = some (64, [41], .goto (-20)) := by decide +kernel
theorem eX9_fewest_64 : mn_dec cX9_fewest 64 = some (65, [], .aload 0) := by decide +kernel
theorem eX9_fewest_65 : mn_dec cX9_fewest 65 = some (66, [], .iload 1) := by decide +kernel
theorem eX9_fewest_66 : mn_dec cX9_fewest 66 = some (67, [], .iload 2) := by decide +kernel
theorem eX9_fewest_67 : mn_dec cX9_fewest 67 = some (70, [], .invokevirtual 190) := by decide +kernel
theorem eX9_fewest_70 : mn_dec cX9_fewest 70 = some (71, [], .istore 3) := by decide +kernel
theorem eX9_fewest_71 : mn_dec cX9_fewest 71 = some (72, [], .iconst 0) := by decide +kernel
theorem eX9_fewest_72 : mn_dec cX9_fewest 72 = some (74, [], .istore 4) := by decide +kernel
theorem eX9_fewest_74 : mn_dec cX9_fewest 74 = some (76, [], .iload 4) := by decide +kernel
theorem eX9_fewest_76 : mn_dec cX9_fewest 76 = some (77, [], .iload 1) := by decide +kernel
theorem eX9_fewest_77 : mn_dec cX9_fewest 77 = some (80, [100], .if_icmp .ge 23) := by decide +kernel
theorem eX9_fewest_80 : mn_dec cX9_fewest 80 = some (81, [], .aload 0) := by decide +kernel
theorem eX9_fewest_81 : mn_dec cX9_fewest 81 = some (84, [], .getfield 7) := by decide +kernel
theorem eX9_fewest_84 : mn_dec cX9_fewest 84 = some (86, [], .iload 4) := by decide +kernel
theorem eX9_fewest_86 : mn_dec cX9_fewest 86 = some (87, [], .aload 0) := by decide +kernel
theorem eX9_fewest_87 : mn_dec cX9_fewest 87 = some (90, [], .getfield 33) := by decide +kernel
theorem eX9_fewest_90 : mn_dec cX9_fewest 90 = some (92, [], .iload 4) := by decide +kernel
theorem eX9_fewest_92 : mn_dec cX9_fewest 92 = some (93, [], .iaload) := by decide +kernel
theorem eX9_fewest_93 : mn_dec cX9_fewest 93 = some (94, [], .iastore) := by decide +kernel
theorem eX9_fewest_94 : mn_dec cX9_fewest 94 = some (97, [], .iinc 4 1) := by decide +kernel
theorem eX9_fewest_97 : mn_dec cX9_fewest 97 = some (100, [74], .goto (-23)) := by decide +kernel
theorem eX9_fewest_100 : mn_dec cX9_fewest 100 = some (101, [], .iload 3) := by decide +kernel
theorem eX9_fewest_101 : mn_dec cX9_fewest 101 = some (102, [], .ireturn) := by decide +kernel
theorem eX9_found_0 : mn_dec cX9_found 0 = some (1, [], .aload 0) := by decide +kernel
theorem eX9_found_1 : mn_dec cX9_found 1 = some (4, [], .getfield 179) := by decide +kernel
theorem eX9_found_4 : mn_dec cX9_found 4 = some (5, [], .ireturn) := by decide +kernel
