theorem eX0_isTaken_0 : mn_dec cX0_isTaken 0 = some (1, [], .aload 0) := by decide +kernel
theorem eX0_isTaken_1 : mn_dec cX0_isTaken 1 = some (4, [], .getfield 19) := by decide +kernel
theorem eX0_isTaken_4 : mn_dec cX0_isTaken 4 = some (5, [], .ireturn) := by decide +kernel
theorem eX0_takeFrom_0 : mn_dec cX0_takeFrom 0 = some (1, [], .aload 0) := by decide +kernel
theorem eX0_takeFrom_1 : mn_dec cX0_takeFrom 1 = some (2, [], .iconst 1) := by decide +kernel
theorem eX0_takeFrom_2 : mn_dec cX0_takeFrom 2 = some (5, [], .putfield 19) := by decide +kernel
theorem eX0_takeFrom_5 : mn_dec cX0_takeFrom 5 = some (6, [], .aload 0) := by decide +kernel
theorem eX0_takeFrom_6 : mn_dec cX0_takeFrom 6 = some (7, [], .aload 1) := by decide +kernel
theorem eX0_takeFrom_7 : mn_dec cX0_takeFrom 7 = some (10, [], .invokevirtual 23) := by decide +kernel
theorem eX0_takeFrom_10 : mn_dec cX0_takeFrom 10 = some (11, [], .aload 0) := by decide +kernel
theorem eX0_takeFrom_11 : mn_dec cX0_takeFrom 11 = some (14, [], .getfield 9) := by decide +kernel
theorem eX0_takeFrom_14 : mn_dec cX0_takeFrom 14 = some (15, [], .arraylength) := by decide +kernel
theorem eX0_takeFrom_15 : mn_dec cX0_takeFrom 15 = some (18, [], .invokestatic 29) := by decide +kernel
theorem eX0_takeFrom_18 : mn_dec cX0_takeFrom 18 = some (21, [], .putfield 15) := by decide +kernel
theorem eX0_takeFrom_21 : mn_dec cX0_takeFrom 21 = some (22, [], .iconst 0) := by decide +kernel
theorem eX0_takeFrom_22 : mn_dec cX0_takeFrom 22 = some (23, [], .istore 2) := by decide +kernel
theorem eX0_takeFrom_23 : mn_dec cX0_takeFrom 23 = some (24, [], .iload 2) := by decide +kernel
theorem eX0_takeFrom_24 : mn_dec cX0_takeFrom 24 = some (25, [], .aload 0) := by decide +kernel
theorem eX0_takeFrom_25 : mn_dec cX0_takeFrom 25 = some (28, [], .getfield 15) := by decide +kernel
theorem eX0_takeFrom_28 : mn_dec cX0_takeFrom 28 = some (31, [48], .if_icmp .ge 20) := by decide +kernel
theorem eX0_takeFrom_31 : mn_dec cX0_takeFrom 31 = some (32, [], .aload 0) := by decide +kernel
theorem eX0_takeFrom_32 : mn_dec cX0_takeFrom 32 = some (35, [], .getfield 9) := by decide +kernel
theorem eX0_takeFrom_35 : mn_dec cX0_takeFrom 35 = some (36, [], .iload 2) := by decide +kernel
theorem eX0_takeFrom_36 : mn_dec cX0_takeFrom 36 = some (37, [], .aload 1) := by decide +kernel
theorem eX0_takeFrom_37 : mn_dec cX0_takeFrom 37 = some (38, [], .iload 2) := by decide +kernel
theorem eX0_takeFrom_38 : mn_dec cX0_takeFrom 38 = some (41, [], .invokevirtual 35) := by decide +kernel
theorem eX0_takeFrom_41 : mn_dec cX0_takeFrom 41 = some (42, [], .iastore) := by decide +kernel
theorem eX0_takeFrom_42 : mn_dec cX0_takeFrom 42 = some (45, [], .iinc 2 1) := by decide +kernel
theorem eX0_takeFrom_45 : mn_dec cX0_takeFrom 45 = some (48, [23], .goto (-22)) := by decide +kernel
theorem eX0_takeFrom_48 : mn_dec cX0_takeFrom 48 = some (49, [], .aload 0) := by decide +kernel
theorem eX0_takeFrom_49 : mn_dec cX0_takeFrom 49 = some (52, [], .getfield 15) := by decide +kernel
theorem eX0_takeFrom_52 : mn_dec cX0_takeFrom 52 = some (53, [], .ireturn) := by decide +kernel
theorem eX0_giveBackTo_0 : mn_dec cX0_giveBackTo 0 = some (1, [], .iconst 0) := by decide +kernel
theorem eX0_giveBackTo_1 : mn_dec cX0_giveBackTo 1 = some (2, [], .istore 2) := by decide +kernel
theorem eX0_giveBackTo_2 : mn_dec cX0_giveBackTo 2 = some (3, [], .iload 2) := by decide +kernel
theorem eX0_giveBackTo_3 : mn_dec cX0_giveBackTo 3 = some (4, [], .aload 0) := by decide +kernel
theorem eX0_giveBackTo_4 : mn_dec cX0_giveBackTo 4 = some (7, [], .getfield 15) := by decide +kernel
theorem eX0_giveBackTo_7 : mn_dec cX0_giveBackTo 7 = some (10, [36], .if_icmp .ge 29) := by decide +kernel
theorem eX0_giveBackTo_10 : mn_dec cX0_giveBackTo 10 = some (11, [], .iload 2) := by decide +kernel
theorem eX0_giveBackTo_11 : mn_dec cX0_giveBackTo 11 = some (12, [], .aload 0) := by decide +kernel
theorem eX0_giveBackTo_12 : mn_dec cX0_giveBackTo 12 = some (15, [], .getfield 9) := by decide +kernel
theorem eX0_giveBackTo_15 : mn_dec cX0_giveBackTo 15 = some (16, [], .arraylength) := by decide +kernel
theorem eX0_giveBackTo_16 : mn_dec cX0_giveBackTo 16 = some (19, [36], .if_icmp .ge 20) := by decide +kernel
theorem eX0_giveBackTo_19 : mn_dec cX0_giveBackTo 19 = some (20, [], .aload 1) := by decide +kernel
theorem eX0_giveBackTo_20 : mn_dec cX0_giveBackTo 20 = some (21, [], .iload 2) := by decide +kernel
theorem eX0_giveBackTo_21 : mn_dec cX0_giveBackTo 21 = some (22, [], .aload 0) := by decide +kernel
theorem eX0_giveBackTo_22 : mn_dec cX0_giveBackTo 22 = some (25, [], .getfield 9) := by decide +kernel
theorem eX0_giveBackTo_25 : mn_dec cX0_giveBackTo 25 = some (26, [], .iload 2) := by decide +kernel
theorem eX0_giveBackTo_26 : mn_dec cX0_giveBackTo 26 = some (27, [], .iaload) := by decide +kernel
theorem eX0_giveBackTo_27 : mn_dec cX0_giveBackTo 27 = some (30, [], .invokevirtual 39) := by decide +kernel
theorem eX0_giveBackTo_30 : mn_dec cX0_giveBackTo 30 = some (33, [], .iinc 2 1) := by decide +kernel
theorem eX0_giveBackTo_33 : mn_dec cX0_giveBackTo 33 = some (36, [2], .goto (-31)) := by decide +kernel
theorem eX0_giveBackTo_36 : mn_dec cX0_giveBackTo 36 = some (37, [], .aload 0) := by decide +kernel
theorem eX0_giveBackTo_37 : mn_dec cX0_giveBackTo 37 = some (40, [], .getfield 15) := by decide +kernel
theorem eX0_giveBackTo_40 : mn_dec cX0_giveBackTo 40 = some (41, [], .ireturn) := by decide +kernel
theorem eX1_followListening_0 : mn_dec cX1_followListening 0 = some (1, [], .aload 0) := by decide +kernel
theorem eX1_followListening_1 : mn_dec cX1_followListening 1 = some (2, [], .aload 1) := by decide +kernel
theorem eX1_followListening_2 : mn_dec cX1_followListening 2 = some (5, [], .invokevirtual 19) := by decide +kernel
theorem eX1_followListening_5 : mn_dec cX1_followListening 5 = some (8, [], .invokevirtual 25) := by decide +kernel
theorem eX1_followListening_8 : mn_dec cX1_followListening 8 = some (9, [], .iconst 0) := by decide +kernel
theorem eX1_followListening_9 : mn_dec cX1_followListening 9 = some (10, [], .istore 2) := by decide +kernel
theorem eX1_followListening_10 : mn_dec cX1_followListening 10 = some (11, [], .iload 2) := by decide +kernel
theorem eX1_followListening_11 : mn_dec cX1_followListening 11 = some (12, [], .aload 0) := by decide +kernel
theorem eX1_followListening_12 : mn_dec cX1_followListening 12 = some (15, [], .getfield 15) := by decide +kernel
theorem eX1_followListening_15 : mn_dec cX1_followListening 15 = some (18, [55], .if_icmp .ge 40) := by decide +kernel
theorem eX1_followListening_18 : mn_dec cX1_followListening 18 = some (19, [], .iconst 0) := by decide +kernel
theorem eX1_followListening_19 : mn_dec cX1_followListening 19 = some (20, [], .istore 3) := by decide +kernel
theorem eX1_followListening_20 : mn_dec cX1_followListening 20 = some (21, [], .iload 3) := by decide +kernel
theorem eX1_followListening_21 : mn_dec cX1_followListening 21 = some (22, [], .aload 0) := by decide +kernel
theorem eX1_followListening_22 : mn_dec cX1_followListening 22 = some (25, [], .getfield 15) := by decide +kernel
theorem eX1_followListening_25 : mn_dec cX1_followListening 25 = some (28, [49], .if_icmp .ge 24) := by decide +kernel
theorem eX1_followListening_28 : mn_dec cX1_followListening 28 = some (29, [], .aload 1) := by decide +kernel
theorem eX1_followListening_29 : mn_dec cX1_followListening 29 = some (30, [], .iload 3) := by decide +kernel
theorem eX1_followListening_30 : mn_dec cX1_followListening 30 = some (31, [], .iload 2) := by decide +kernel
theorem eX1_followListening_31 : mn_dec cX1_followListening 31 = some (34, [], .invokevirtual 29) := by decide +kernel
theorem eX1_followListening_34 : mn_dec cX1_followListening 34 = some (37, [43], .ifCond .le 9) := by decide +kernel
theorem eX1_followListening_37 : mn_dec cX1_followListening 37 = some (38, [], .aload 0) := by decide +kernel
theorem eX1_followListening_38 : mn_dec cX1_followListening 38 = some (39, [], .iload 2) := by decide +kernel
theorem eX1_followListening_39 : mn_dec cX1_followListening 39 = some (40, [], .iload 3) := by decide +kernel
theorem eX1_followListening_40 : mn_dec cX1_followListening 40 = some (43, [], .invokevirtual 33) := by decide +kernel
theorem eX1_followListening_43 : mn_dec cX1_followListening 43 = some (46, [], .iinc 3 1) := by decide +kernel
theorem eX1_followListening_46 : mn_dec cX1_followListening 46 = some (49, [20], .goto (-26)) := by decide +kernel
theorem eX1_followListening_49 : mn_dec cX1_followListening 49 = some (52, [], .iinc 2 1) := by decide +kernel
theorem eX1_followListening_52 : mn_dec cX1_followListening 52 = some (55, [10], .goto (-42)) := by decide +kernel
theorem eX1_followListening_55 : mn_dec cX1_followListening 55 = some (56, [], .aload 0) := by decide +kernel
theorem eX1_followListening_56 : mn_dec cX1_followListening 56 = some (59, [], .invokevirtual 37) := by decide +kernel
theorem eX1_followListening_59 : mn_dec cX1_followListening 59 = some (60, [], .return_) := by decide +kernel
theorem eX1_followHanging_0 : mn_dec cX1_followHanging 0 = some (1, [], .aload 0) := by decide +kernel
theorem eX1_followHanging_1 : mn_dec cX1_followHanging 1 = some (2, [], .aload 1) := by decide +kernel
theorem eX1_followHanging_2 : mn_dec cX1_followHanging 2 = some (5, [], .invokevirtual 19) := by decide +kernel
theorem eX1_followHanging_5 : mn_dec cX1_followHanging 5 = some (8, [], .invokevirtual 25) := by decide +kernel
theorem eX1_followHanging_8 : mn_dec cX1_followHanging 8 = some (9, [], .iconst 0) := by decide +kernel
theorem eX1_followHanging_9 : mn_dec cX1_followHanging 9 = some (10, [], .istore 2) := by decide +kernel
theorem eX1_followHanging_10 : mn_dec cX1_followHanging 10 = some (11, [], .iload 2) := by decide +kernel
theorem eX1_followHanging_11 : mn_dec cX1_followHanging 11 = some (12, [], .aload 0) := by decide +kernel
theorem eX1_followHanging_12 : mn_dec cX1_followHanging 12 = some (15, [], .getfield 15) := by decide +kernel
theorem eX1_followHanging_15 : mn_dec cX1_followHanging 15 = some (18, [55], .if_icmp .ge 40) := by decide +kernel
theorem eX1_followHanging_18 : mn_dec cX1_followHanging 18 = some (19, [], .iconst 0) := by decide +kernel
theorem eX1_followHanging_19 : mn_dec cX1_followHanging 19 = some (20, [], .istore 3) := by decide +kernel
theorem eX1_followHanging_20 : mn_dec cX1_followHanging 20 = some (21, [], .iload 3) := by decide +kernel
theorem eX1_followHanging_21 : mn_dec cX1_followHanging 21 = some (22, [], .aload 0) := by decide +kernel
theorem eX1_followHanging_22 : mn_dec cX1_followHanging 22 = some (25, [], .getfield 15) := by decide +kernel
theorem eX1_followHanging_25 : mn_dec cX1_followHanging 25 = some (28, [49], .if_icmp .ge 24) := by decide +kernel
theorem eX1_followHanging_28 : mn_dec cX1_followHanging 28 = some (29, [], .aload 1) := by decide +kernel
theorem eX1_followHanging_29 : mn_dec cX1_followHanging 29 = some (30, [], .iload 2) := by decide +kernel
theorem eX1_followHanging_30 : mn_dec cX1_followHanging 30 = some (31, [], .iload 3) := by decide +kernel
theorem eX1_followHanging_31 : mn_dec cX1_followHanging 31 = some (34, [], .invokevirtual 40) := by decide +kernel
theorem eX1_followHanging_34 : mn_dec cX1_followHanging 34 = some (37, [43], .ifCond .eq 9) := by decide +kernel
theorem eX1_followHanging_37 : mn_dec cX1_followHanging 37 = some (38, [], .aload 0) := by decide +kernel
theorem eX1_followHanging_38 : mn_dec cX1_followHanging 38 = some (39, [], .iload 2) := by decide +kernel
theorem eX1_followHanging_39 : mn_dec cX1_followHanging 39 = some (40, [], .iload 3) := by decide +kernel
theorem eX1_followHanging_40 : mn_dec cX1_followHanging 40 = some (43, [], .invokevirtual 33) := by decide +kernel
theorem eX1_followHanging_43 : mn_dec cX1_followHanging 43 = some (46, [], .iinc 3 1) := by decide +kernel
theorem eX1_followHanging_46 : mn_dec cX1_followHanging 46 = some (49, [20], .goto (-26)) := by decide +kernel
theorem eX1_followHanging_49 : mn_dec cX1_followHanging 49 = some (52, [], .iinc 2 1) := by decide +kernel
theorem eX1_followHanging_52 : mn_dec cX1_followHanging 52 = some (55, [10], .goto (-42)) := by decide +kernel
theorem eX1_followHanging_55 : mn_dec cX1_followHanging 55 = some (56, [], .aload 0) := by decide +kernel
theorem eX1_followHanging_56 : mn_dec cX1_followHanging 56 = some (59, [], .invokevirtual 37) := by decide +kernel
theorem eX1_followHanging_59 : mn_dec cX1_followHanging 59 = some (60, [], .return_) := by decide +kernel
theorem eX1_isTied_0 : mn_dec cX1_isTied 0 = some (1, [], .aload 0) := by decide +kernel
theorem eX1_isTied_1 : mn_dec cX1_isTied 1 = some (2, [], .iload 1) := by decide +kernel
theorem eX1_isTied_2 : mn_dec cX1_isTied 2 = some (5, [], .invokevirtual 44) := by decide +kernel
theorem eX1_isTied_5 : mn_dec cX1_isTied 5 = some (8, [33], .ifCond .eq 28) := by decide +kernel
theorem eX1_isTied_8 : mn_dec cX1_isTied 8 = some (9, [], .aload 0) := by decide +kernel
theorem eX1_isTied_9 : mn_dec cX1_isTied 9 = some (10, [], .iload 2) := by decide +kernel
theorem eX1_isTied_10 : mn_dec cX1_isTied 10 = some (13, [], .invokevirtual 44) := by decide +kernel
theorem eX1_isTied_13 : mn_dec cX1_isTied 13 = some (16, [33], .ifCond .eq 20) := by decide +kernel
theorem eX1_isTied_16 : mn_dec cX1_isTied 16 = some (17, [], .aload 0) := by decide +kernel
theorem eX1_isTied_17 : mn_dec cX1_isTied 17 = some (20, [], .getfield 9) := by decide +kernel
theorem eX1_isTied_20 : mn_dec cX1_isTied 20 = some (21, [], .iload 1) := by decide +kernel
theorem eX1_isTied_21 : mn_dec cX1_isTied 21 = some (22, [], .iaload) := by decide +kernel
theorem eX1_isTied_22 : mn_dec cX1_isTied 22 = some (23, [], .iconst 1) := by decide +kernel
theorem eX1_isTied_23 : mn_dec cX1_isTied 23 = some (24, [], .iload 2) := by decide +kernel
theorem eX1_isTied_24 : mn_dec cX1_isTied 24 = some (25, [], .ishl) := by decide +kernel
theorem eX1_isTied_25 : mn_dec cX1_isTied 25 = some (26, [], .iand) := by decide +kernel
theorem eX1_isTied_26 : mn_dec cX1_isTied 26 = some (29, [33], .ifCond .eq 7) := by decide +kernel
theorem eX1_isTied_29 : mn_dec cX1_isTied 29 = some (30, [], .iconst 1) := by decide +kernel
theorem eX1_isTied_30 : mn_dec cX1_isTied 30 = some (33, [34], .goto 4) := by decide +kernel
theorem eX1_isTied_33 : mn_dec cX1_isTied 33 = some (34, [], .iconst 0) := by decide +kernel
theorem eX1_isTied_34 : mn_dec cX1_isTied 34 = some (35, [], .ireturn) := by decide +kernel
theorem eX1_firstTiedTo_0 : mn_dec cX1_firstTiedTo 0 = some (1, [], .iconst 0) := by decide +kernel
theorem eX1_firstTiedTo_1 : mn_dec cX1_firstTiedTo 1 = some (2, [], .istore 2) := by decide +kernel
theorem eX1_firstTiedTo_2 : mn_dec cX1_firstTiedTo 2 = some (3, [], .iload 2) := by decide +kernel
theorem eX1_firstTiedTo_3 : mn_dec cX1_firstTiedTo 3 = some (4, [], .iload 1) := by decide +kernel
theorem eX1_firstTiedTo_4 : mn_dec cX1_firstTiedTo 4 = some (7, [24], .if_icmp .ge 20) := by decide +kernel
theorem eX1_firstTiedTo_7 : mn_dec cX1_firstTiedTo 7 = some (8, [], .aload 0) := by decide +kernel
theorem eX1_firstTiedTo_8 : mn_dec cX1_firstTiedTo 8 = some (9, [], .iload 1) := by decide +kernel
theorem eX1_firstTiedTo_9 : mn_dec cX1_firstTiedTo 9 = some (10, [], .iload 2) := by decide +kernel
theorem eX1_firstTiedTo_10 : mn_dec cX1_firstTiedTo 10 = some (13, [], .invokevirtual 48) := by decide +kernel
theorem eX1_firstTiedTo_13 : mn_dec cX1_firstTiedTo 13 = some (16, [18], .ifCond .eq 5) := by decide +kernel
theorem eX1_firstTiedTo_16 : mn_dec cX1_firstTiedTo 16 = some (17, [], .iload 2) := by decide +kernel
theorem eX1_firstTiedTo_17 : mn_dec cX1_firstTiedTo 17 = some (18, [], .ireturn) := by decide +kernel
theorem eX1_firstTiedTo_18 : mn_dec cX1_firstTiedTo 18 = some (21, [], .iinc 2 1) := by decide +kernel
theorem eX1_firstTiedTo_21 : mn_dec cX1_firstTiedTo 21 = some (24, [2], .goto (-19)) := by decide +kernel
theorem eX1_firstTiedTo_24 : mn_dec cX1_firstTiedTo 24 = some (25, [], .iload 1) := by decide +kernel
theorem eX1_firstTiedTo_25 : mn_dec cX1_firstTiedTo 25 = some (26, [], .ireturn) := by decide +kernel
theorem eX1_countFirsts_0 : mn_dec cX1_countFirsts 0 = some (1, [], .iconst 0) := by decide +kernel
theorem eX1_countFirsts_1 : mn_dec cX1_countFirsts 1 = some (2, [], .istore 2) := by decide +kernel
theorem eX1_countFirsts_2 : mn_dec cX1_countFirsts 2 = some (3, [], .iconst 0) := by decide +kernel
theorem eX1_countFirsts_3 : mn_dec cX1_countFirsts 3 = some (4, [], .istore 3) := by decide +kernel
theorem eX1_countFirsts_4 : mn_dec cX1_countFirsts 4 = some (5, [], .iload 3) := by decide +kernel
theorem eX1_countFirsts_5 : mn_dec cX1_countFirsts 5 = some (6, [], .iload 1) := by decide +kernel
theorem eX1_countFirsts_6 : mn_dec cX1_countFirsts 6 = some (9, [35], .if_icmp .ge 29) := by decide +kernel
theorem eX1_countFirsts_9 : mn_dec cX1_countFirsts 9 = some (10, [], .iload 3) := by decide +kernel
theorem eX1_countFirsts_10 : mn_dec cX1_countFirsts 10 = some (11, [], .aload 0) := by decide +kernel
theorem eX1_countFirsts_11 : mn_dec cX1_countFirsts 11 = some (14, [], .getfield 15) := by decide +kernel
theorem eX1_countFirsts_14 : mn_dec cX1_countFirsts 14 = some (17, [35], .if_icmp .ge 21) := by decide +kernel
theorem eX1_countFirsts_17 : mn_dec cX1_countFirsts 17 = some (18, [], .aload 0) := by decide +kernel
theorem eX1_countFirsts_18 : mn_dec cX1_countFirsts 18 = some (19, [], .iload 3) := by decide +kernel
theorem eX1_countFirsts_19 : mn_dec cX1_countFirsts 19 = some (22, [], .invokevirtual 51) := by decide +kernel
theorem eX1_countFirsts_22 : mn_dec cX1_countFirsts 22 = some (23, [], .iload 3) := by decide +kernel
theorem eX1_countFirsts_23 : mn_dec cX1_countFirsts 23 = some (26, [29], .if_icmp .ne 6) := by decide +kernel
theorem eX1_countFirsts_26 : mn_dec cX1_countFirsts 26 = some (29, [], .iinc 2 1) := by decide +kernel
theorem eX1_countFirsts_29 : mn_dec cX1_countFirsts 29 = some (32, [], .iinc 3 1) := by decide +kernel
theorem eX1_countFirsts_32 : mn_dec cX1_countFirsts 32 = some (35, [4], .goto (-28)) := by decide +kernel
theorem eX1_countFirsts_35 : mn_dec cX1_countFirsts 35 = some (36, [], .iload 2) := by decide +kernel
theorem eX1_countFirsts_36 : mn_dec cX1_countFirsts 36 = some (37, [], .ireturn) := by decide +kernel
theorem eX1_isThere_0 : mn_dec cX1_isThere 0 = some (1, [], .iload 1) := by decide +kernel
theorem eX1_isThere_1 : mn_dec cX1_isThere 1 = some (4, [25], .ifCond .lt 24) := by decide +kernel
theorem eX1_isThere_4 : mn_dec cX1_isThere 4 = some (5, [], .iload 1) := by decide +kernel
theorem eX1_isThere_5 : mn_dec cX1_isThere 5 = some (6, [], .aload 0) := by decide +kernel
theorem eX1_isThere_6 : mn_dec cX1_isThere 6 = some (9, [], .getfield 15) := by decide +kernel
theorem eX1_isThere_9 : mn_dec cX1_isThere 9 = some (12, [25], .if_icmp .ge 16) := by decide +kernel
theorem eX1_isThere_12 : mn_dec cX1_isThere 12 = some (13, [], .iload 1) := by decide +kernel
theorem eX1_isThere_13 : mn_dec cX1_isThere 13 = some (14, [], .aload 0) := by decide +kernel
theorem eX1_isThere_14 : mn_dec cX1_isThere 14 = some (17, [], .getfield 9) := by decide +kernel
theorem eX1_isThere_17 : mn_dec cX1_isThere 17 = some (18, [], .arraylength) := by decide +kernel
theorem eX1_isThere_18 : mn_dec cX1_isThere 18 = some (21, [25], .if_icmp .ge 7) := by decide +kernel
theorem eX1_isThere_21 : mn_dec cX1_isThere 21 = some (22, [], .iconst 1) := by decide +kernel
theorem eX1_isThere_22 : mn_dec cX1_isThere 22 = some (25, [26], .goto 4) := by decide +kernel
theorem eX1_isThere_25 : mn_dec cX1_isThere 25 = some (26, [], .iconst 0) := by decide +kernel
theorem eX1_isThere_26 : mn_dec cX1_isThere 26 = some (27, [], .ireturn) := by decide +kernel
theorem eX1_begin_0 : mn_dec cX1_begin 0 = some (1, [], .aload 0) := by decide +kernel
theorem eX1_begin_1 : mn_dec cX1_begin 1 = some (2, [], .iload 1) := by decide +kernel
theorem eX1_begin_2 : mn_dec cX1_begin 2 = some (5, [], .putfield 15) := by decide +kernel
theorem eX1_begin_5 : mn_dec cX1_begin 5 = some (6, [], .iconst 0) := by decide +kernel
theorem eX1_begin_6 : mn_dec cX1_begin 6 = some (7, [], .istore 2) := by decide +kernel
theorem eX1_begin_7 : mn_dec cX1_begin 7 = some (8, [], .iload 2) := by decide +kernel
theorem eX1_begin_8 : mn_dec cX1_begin 8 = some (9, [], .aload 0) := by decide +kernel
theorem eX1_begin_9 : mn_dec cX1_begin 9 = some (12, [], .getfield 9) := by decide +kernel
theorem eX1_begin_12 : mn_dec cX1_begin 12 = some (13, [], .arraylength) := by decide +kernel
theorem eX1_begin_13 : mn_dec cX1_begin 13 = some (16, [29], .if_icmp .ge 16) := by decide +kernel
theorem eX1_begin_16 : mn_dec cX1_begin 16 = some (17, [], .aload 0) := by decide +kernel
theorem eX1_begin_17 : mn_dec cX1_begin 17 = some (20, [], .getfield 9) := by decide +kernel
theorem eX1_begin_20 : mn_dec cX1_begin 20 = some (21, [], .iload 2) := by decide +kernel
theorem eX1_begin_21 : mn_dec cX1_begin 21 = some (22, [], .iconst 0) := by decide +kernel
theorem eX1_begin_22 : mn_dec cX1_begin 22 = some (23, [], .iastore) := by decide +kernel
theorem eX1_begin_23 : mn_dec cX1_begin 23 = some (26, [], .iinc 2 1) := by decide +kernel
theorem eX1_begin_26 : mn_dec cX1_begin 26 = some (29, [7], .goto (-19)) := by decide +kernel
theorem eX1_begin_29 : mn_dec cX1_begin 29 = some (30, [], .return_) := by decide +kernel
theorem eX1_tie_0 : mn_dec cX1_tie 0 = some (1, [], .aload 0) := by decide +kernel
theorem eX1_tie_1 : mn_dec cX1_tie 1 = some (2, [], .iload 1) := by decide +kernel
theorem eX1_tie_2 : mn_dec cX1_tie 2 = some (5, [], .invokevirtual 44) := by decide +kernel
theorem eX1_tie_5 : mn_dec cX1_tie 5 = some (8, [28], .ifCond .eq 23) := by decide +kernel
theorem eX1_tie_8 : mn_dec cX1_tie 8 = some (9, [], .aload 0) := by decide +kernel
theorem eX1_tie_9 : mn_dec cX1_tie 9 = some (10, [], .iload 2) := by decide +kernel
theorem eX1_tie_10 : mn_dec cX1_tie 10 = some (13, [], .invokevirtual 44) := by decide +kernel
theorem eX1_tie_13 : mn_dec cX1_tie 13 = some (16, [28], .ifCond .eq 15) := by decide +kernel
theorem eX1_tie_16 : mn_dec cX1_tie 16 = some (17, [], .aload 0) := by decide +kernel
theorem eX1_tie_17 : mn_dec cX1_tie 17 = some (20, [], .getfield 9) := by decide +kernel
theorem eX1_tie_20 : mn_dec cX1_tie 20 = some (21, [], .iload 1) := by decide +kernel
theorem eX1_tie_21 : mn_dec cX1_tie 21 = some (22, [], .dup2) := by decide +kernel
theorem eX1_tie_22 : mn_dec cX1_tie 22 = some (23, [], .iaload) := by decide +kernel
theorem eX1_tie_23 : mn_dec cX1_tie 23 = some (24, [], .iconst 1) := by decide +kernel
theorem eX1_tie_24 : mn_dec cX1_tie 24 = some (25, [], .iload 2) := by decide +kernel
theorem eX1_tie_25 : mn_dec cX1_tie 25 = some (26, [], .ishl) := by decide +kernel
theorem eX1_tie_26 : mn_dec cX1_tie 26 = some (27, [], .ior) := by decide +kernel
theorem eX1_tie_27 : mn_dec cX1_tie 27 = some (28, [], .iastore) := by decide +kernel
theorem eX1_tie_28 : mn_dec cX1_tie 28 = some (29, [], .return_) := by decide +kernel
theorem eX1_followOn_0 : mn_dec cX1_followOn 0 = some (1, [], .iconst 0) := by decide +kernel
theorem eX1_followOn_1 : mn_dec cX1_followOn 1 = some (2, [], .istore 1) := by decide +kernel
theorem eX1_followOn_2 : mn_dec cX1_followOn 2 = some (3, [], .iload 1) := by decide +kernel
theorem eX1_followOn_3 : mn_dec cX1_followOn 3 = some (4, [], .aload 0) := by decide +kernel
theorem eX1_followOn_4 : mn_dec cX1_followOn 4 = some (7, [], .getfield 15) := by decide +kernel
theorem eX1_followOn_7 : mn_dec cX1_followOn 7 = some (10, [74], .if_icmp .ge 67) := by decide +kernel
theorem eX1_followOn_10 : mn_dec cX1_followOn 10 = some (11, [], .iload 1) := by decide +kernel
theorem eX1_followOn_11 : mn_dec cX1_followOn 11 = some (12, [], .aload 0) := by decide +kernel
theorem eX1_followOn_12 : mn_dec cX1_followOn 12 = some (15, [], .getfield 9) := by decide +kernel
theorem eX1_followOn_15 : mn_dec cX1_followOn 15 = some (16, [], .arraylength) := by decide +kernel
theorem eX1_followOn_16 : mn_dec cX1_followOn 16 = some (19, [74], .if_icmp .ge 58) := by decide +kernel
theorem eX1_followOn_19 : mn_dec cX1_followOn 19 = some (20, [], .iconst 0) := by decide +kernel
theorem eX1_followOn_20 : mn_dec cX1_followOn 20 = some (21, [], .istore 2) := by decide +kernel
theorem eX1_followOn_21 : mn_dec cX1_followOn 21 = some (22, [], .iload 2) := by decide +kernel
theorem eX1_followOn_22 : mn_dec cX1_followOn 22 = some (23, [], .aload 0) := by decide +kernel
theorem eX1_followOn_23 : mn_dec cX1_followOn 23 = some (26, [], .getfield 15) := by decide +kernel
theorem eX1_followOn_26 : mn_dec cX1_followOn 26 = some (29, [68], .if_icmp .ge 42) := by decide +kernel
theorem eX1_followOn_29 : mn_dec cX1_followOn 29 = some (30, [], .iload 2) := by decide +kernel
theorem eX1_followOn_30 : mn_dec cX1_followOn 30 = some (31, [], .aload 0) := by decide +kernel
theorem eX1_followOn_31 : mn_dec cX1_followOn 31 = some (34, [], .getfield 9) := by decide +kernel
theorem eX1_followOn_34 : mn_dec cX1_followOn 34 = some (35, [], .arraylength) := by decide +kernel
theorem eX1_followOn_35 : mn_dec cX1_followOn 35 = some (38, [68], .if_icmp .ge 33) := by decide +kernel
theorem eX1_followOn_38 : mn_dec cX1_followOn 38 = some (39, [], .aload 0) := by decide +kernel
theorem eX1_followOn_39 : mn_dec cX1_followOn 39 = some (40, [], .iload 2) := by decide +kernel
theorem eX1_followOn_40 : mn_dec cX1_followOn 40 = some (41, [], .iload 1) := by decide +kernel
theorem eX1_followOn_41 : mn_dec cX1_followOn 41 = some (44, [], .invokevirtual 48) := by decide +kernel
theorem eX1_followOn_44 : mn_dec cX1_followOn 44 = some (47, [62], .ifCond .eq 18) := by decide +kernel
theorem eX1_followOn_47 : mn_dec cX1_followOn 47 = some (48, [], .aload 0) := by decide +kernel
theorem eX1_followOn_48 : mn_dec cX1_followOn 48 = some (51, [], .getfield 9) := by decide +kernel
theorem eX1_followOn_51 : mn_dec cX1_followOn 51 = some (52, [], .iload 2) := by decide +kernel
theorem eX1_followOn_52 : mn_dec cX1_followOn 52 = some (53, [], .dup2) := by decide +kernel
theorem eX1_followOn_53 : mn_dec cX1_followOn 53 = some (54, [], .iaload) := by decide +kernel
theorem eX1_followOn_54 : mn_dec cX1_followOn 54 = some (55, [], .aload 0) := by decide +kernel
theorem eX1_followOn_55 : mn_dec cX1_followOn 55 = some (58, [], .getfield 9) := by decide +kernel
theorem eX1_followOn_58 : mn_dec cX1_followOn 58 = some (59, [], .iload 1) := by decide +kernel
theorem eX1_followOn_59 : mn_dec cX1_followOn 59 = some (60, [], .iaload) := by decide +kernel
theorem eX1_followOn_60 : mn_dec cX1_followOn 60 = some (61, [], .ior) := by decide +kernel
theorem eX1_followOn_61 : mn_dec cX1_followOn 61 = some (62, [], .iastore) := by decide +kernel
theorem eX1_followOn_62 : mn_dec cX1_followOn 62 = some (65, [], .iinc 2 1) := by decide +kernel
theorem eX1_followOn_65 : mn_dec cX1_followOn 65 = some (68, [21], .goto (-44)) := by decide +kernel
theorem eX1_followOn_68 : mn_dec cX1_followOn 68 = some (71, [], .iinc 1 1) := by decide +kernel
theorem eX1_followOn_71 : mn_dec cX1_followOn 71 = some (74, [2], .goto (-69)) := by decide +kernel
theorem eX1_followOn_74 : mn_dec cX1_followOn 74 = some (75, [], .return_) := by decide +kernel
theorem eX2_size_0 : mn_dec cX2_size 0 = some (1, [], .aload 0) := by decide +kernel
theorem eX2_size_1 : mn_dec cX2_size 1 = some (4, [], .getfield 24) := by decide +kernel
theorem eX2_size_4 : mn_dec cX2_size 4 = some (5, [], .ireturn) := by decide +kernel
theorem eX2_has_0 : mn_dec cX2_has 0 = some (1, [], .iload 1) := by decide +kernel
theorem eX2_has_1 : mn_dec cX2_has 1 = some (4, [22], .ifCond .lt 21) := by decide +kernel
theorem eX2_has_4 : mn_dec cX2_has 4 = some (5, [], .iload 1) := by decide +kernel
theorem eX2_has_5 : mn_dec cX2_has 5 = some (6, [], .aload 0) := by decide +kernel
theorem eX2_has_6 : mn_dec cX2_has 6 = some (9, [], .getfield 24) := by decide +kernel
theorem eX2_has_9 : mn_dec cX2_has 9 = some (12, [22], .if_icmp .ge 13) := by decide +kernel
theorem eX2_has_12 : mn_dec cX2_has 12 = some (13, [], .iload 1) := by decide +kernel
theorem eX2_has_13 : mn_dec cX2_has 13 = some (15, [], .iconst 12) := by decide +kernel
theorem eX2_has_15 : mn_dec cX2_has 15 = some (18, [22], .if_icmp .ge 7) := by decide +kernel
theorem eX2_has_18 : mn_dec cX2_has 18 = some (19, [], .iconst 1) := by decide +kernel
theorem eX2_has_19 : mn_dec cX2_has 19 = some (22, [23], .goto 4) := by decide +kernel
theorem eX2_has_22 : mn_dec cX2_has 22 = some (23, [], .iconst 0) := by decide +kernel
theorem eX2_has_23 : mn_dec cX2_has 23 = some (24, [], .ireturn) := by decide +kernel
theorem eX2_join_0 : mn_dec cX2_join 0 = some (1, [], .aload 0) := by decide +kernel
theorem eX2_join_1 : mn_dec cX2_join 1 = some (4, [], .getfield 24) := by decide +kernel
theorem eX2_join_4 : mn_dec cX2_join 4 = some (6, [], .iconst 12) := by decide +kernel
theorem eX2_join_6 : mn_dec cX2_join 6 = some (9, [12], .if_icmp .lt 6) := by decide +kernel
theorem eX2_join_9 : mn_dec cX2_join 9 = some (11, [], .iconst (-4)) := by decide +kernel
theorem eX2_join_11 : mn_dec cX2_join 11 = some (12, [], .ireturn) := by decide +kernel
theorem eX2_join_12 : mn_dec cX2_join 12 = some (13, [], .aload 0) := by decide +kernel
theorem eX2_join_13 : mn_dec cX2_join 13 = some (16, [], .getfield 24) := by decide +kernel
theorem eX2_join_16 : mn_dec cX2_join 16 = some (17, [], .istore 2) := by decide +kernel
theorem eX2_join_17 : mn_dec cX2_join 17 = some (18, [], .aload 0) := by decide +kernel
theorem eX2_join_18 : mn_dec cX2_join 18 = some (19, [], .dup) := by decide +kernel
theorem eX2_join_19 : mn_dec cX2_join 19 = some (22, [], .getfield 24) := by decide +kernel
theorem eX2_join_22 : mn_dec cX2_join 22 = some (23, [], .iconst 1) := by decide +kernel
theorem eX2_join_23 : mn_dec cX2_join 23 = some (24, [], .iadd) := by decide +kernel
theorem eX2_join_24 : mn_dec cX2_join 24 = some (27, [], .putfield 24) := by decide +kernel
theorem eX2_join_27 : mn_dec cX2_join 27 = some (28, [], .aload 0) := by decide +kernel
theorem eX2_join_28 : mn_dec cX2_join 28 = some (29, [], .iload 2) := by decide +kernel
theorem eX2_join_29 : mn_dec cX2_join 29 = some (30, [], .iload 1) := by decide +kernel
theorem eX2_join_30 : mn_dec cX2_join 30 = some (33, [], .invokevirtual 31) := by decide +kernel
theorem eX2_join_33 : mn_dec cX2_join 33 = some (34, [], .aload 0) := by decide +kernel
theorem eX2_join_34 : mn_dec cX2_join 34 = some (35, [], .iload 2) := by decide +kernel
theorem eX2_join_35 : mn_dec cX2_join 35 = some (36, [], .iload 2) := by decide +kernel
theorem eX2_join_36 : mn_dec cX2_join 36 = some (37, [], .iconst 1) := by decide +kernel
theorem eX2_join_37 : mn_dec cX2_join 37 = some (40, [], .invokevirtual 35) := by decide +kernel
theorem eX2_join_40 : mn_dec cX2_join 40 = some (41, [], .iload 2) := by decide +kernel
theorem eX2_join_41 : mn_dec cX2_join 41 = some (42, [], .ireturn) := by decide +kernel
theorem eX2_thoughtOf_0 : mn_dec cX2_thoughtOf 0 = some (1, [], .aload 0) := by decide +kernel
theorem eX2_thoughtOf_1 : mn_dec cX2_thoughtOf 1 = some (2, [], .iload 1) := by decide +kernel
theorem eX2_thoughtOf_2 : mn_dec cX2_thoughtOf 2 = some (5, [], .invokevirtual 39) := by decide +kernel
theorem eX2_thoughtOf_5 : mn_dec cX2_thoughtOf 5 = some (8, [17], .ifCond .eq 12) := by decide +kernel
theorem eX2_thoughtOf_8 : mn_dec cX2_thoughtOf 8 = some (9, [], .aload 0) := by decide +kernel
theorem eX2_thoughtOf_9 : mn_dec cX2_thoughtOf 9 = some (12, [], .getfield 9) := by decide +kernel
theorem eX2_thoughtOf_12 : mn_dec cX2_thoughtOf 12 = some (13, [], .iload 1) := by decide +kernel
theorem eX2_thoughtOf_13 : mn_dec cX2_thoughtOf 13 = some (14, [], .iaload) := by decide +kernel
theorem eX2_thoughtOf_14 : mn_dec cX2_thoughtOf 14 = some (17, [18], .goto 4) := by decide +kernel
theorem eX2_thoughtOf_17 : mn_dec cX2_thoughtOf 17 = some (18, [], .iconst 0) := by decide +kernel
theorem eX2_thoughtOf_18 : mn_dec cX2_thoughtOf 18 = some (19, [], .ireturn) := by decide +kernel
theorem eX2_rethink_0 : mn_dec cX2_rethink 0 = some (1, [], .aload 0) := by decide +kernel
theorem eX2_rethink_1 : mn_dec cX2_rethink 1 = some (2, [], .iload 1) := by decide +kernel
theorem eX2_rethink_2 : mn_dec cX2_rethink 2 = some (5, [], .invokevirtual 39) := by decide +kernel
theorem eX2_rethink_5 : mn_dec cX2_rethink 5 = some (8, [15], .ifCond .eq 10) := by decide +kernel
theorem eX2_rethink_8 : mn_dec cX2_rethink 8 = some (9, [], .aload 0) := by decide +kernel
theorem eX2_rethink_9 : mn_dec cX2_rethink 9 = some (12, [], .getfield 9) := by decide +kernel
theorem eX2_rethink_12 : mn_dec cX2_rethink 12 = some (13, [], .iload 1) := by decide +kernel
theorem eX2_rethink_13 : mn_dec cX2_rethink 13 = some (14, [], .iload 2) := by decide +kernel
theorem eX2_rethink_14 : mn_dec cX2_rethink 14 = some (15, [], .iastore) := by decide +kernel
theorem eX2_rethink_15 : mn_dec cX2_rethink 15 = some (16, [], .return_) := by decide +kernel
theorem eX2_isStubborn_0 : mn_dec cX2_isStubborn 0 = some (1, [], .aload 0) := by decide +kernel
theorem eX2_isStubborn_1 : mn_dec cX2_isStubborn 1 = some (2, [], .iload 1) := by decide +kernel
theorem eX2_isStubborn_2 : mn_dec cX2_isStubborn 2 = some (5, [], .invokevirtual 39) := by decide +kernel
theorem eX2_isStubborn_5 : mn_dec cX2_isStubborn 5 = some (8, [21], .ifCond .eq 16) := by decide +kernel
theorem eX2_isStubborn_8 : mn_dec cX2_isStubborn 8 = some (9, [], .aload 0) := by decide +kernel
theorem eX2_isStubborn_9 : mn_dec cX2_isStubborn 9 = some (12, [], .getfield 15) := by decide +kernel
theorem eX2_isStubborn_12 : mn_dec cX2_isStubborn 12 = some (13, [], .iload 1) := by decide +kernel
theorem eX2_isStubborn_13 : mn_dec cX2_isStubborn 13 = some (14, [], .baload) := by decide +kernel
theorem eX2_isStubborn_14 : mn_dec cX2_isStubborn 14 = some (17, [21], .ifCond .eq 7) := by decide +kernel
theorem eX2_isStubborn_17 : mn_dec cX2_isStubborn 17 = some (18, [], .iconst 1) := by decide +kernel
theorem eX2_isStubborn_18 : mn_dec cX2_isStubborn 18 = some (21, [22], .goto 4) := by decide +kernel
theorem eX2_isStubborn_21 : mn_dec cX2_isStubborn 21 = some (22, [], .iconst 0) := by decide +kernel
theorem eX2_isStubborn_22 : mn_dec cX2_isStubborn 22 = some (23, [], .ireturn) := by decide +kernel
theorem eX2_makeStubborn_0 : mn_dec cX2_makeStubborn 0 = some (1, [], .aload 0) := by decide +kernel
theorem eX2_makeStubborn_1 : mn_dec cX2_makeStubborn 1 = some (2, [], .iload 1) := by decide +kernel
theorem eX2_makeStubborn_2 : mn_dec cX2_makeStubborn 2 = some (5, [], .invokevirtual 39) := by decide +kernel
theorem eX2_makeStubborn_5 : mn_dec cX2_makeStubborn 5 = some (8, [15], .ifCond .eq 10) := by decide +kernel
theorem eX2_makeStubborn_8 : mn_dec cX2_makeStubborn 8 = some (9, [], .aload 0) := by decide +kernel
theorem eX2_makeStubborn_9 : mn_dec cX2_makeStubborn 9 = some (12, [], .getfield 15) := by decide +kernel
theorem eX2_makeStubborn_12 : mn_dec cX2_makeStubborn 12 = some (13, [], .iload 1) := by decide +kernel
theorem eX2_makeStubborn_13 : mn_dec cX2_makeStubborn 13 = some (14, [], .iload 2) := by decide +kernel
theorem eX2_makeStubborn_14 : mn_dec cX2_makeStubborn 14 = some (15, [], .bastore) := by decide +kernel
theorem eX2_makeStubborn_15 : mn_dec cX2_makeStubborn 15 = some (16, [], .return_) := by decide +kernel
theorem eX2_weightOf_0 : mn_dec cX2_weightOf 0 = some (1, [], .aload 0) := by decide +kernel
theorem eX2_weightOf_1 : mn_dec cX2_weightOf 1 = some (2, [], .iload 1) := by decide +kernel
theorem eX2_weightOf_2 : mn_dec cX2_weightOf 2 = some (5, [], .invokevirtual 39) := by decide +kernel
theorem eX2_weightOf_5 : mn_dec cX2_weightOf 5 = some (8, [27], .ifCond .eq 22) := by decide +kernel
theorem eX2_weightOf_8 : mn_dec cX2_weightOf 8 = some (9, [], .aload 0) := by decide +kernel
theorem eX2_weightOf_9 : mn_dec cX2_weightOf 9 = some (10, [], .iload 2) := by decide +kernel
theorem eX2_weightOf_10 : mn_dec cX2_weightOf 10 = some (13, [], .invokevirtual 39) := by decide +kernel
theorem eX2_weightOf_13 : mn_dec cX2_weightOf 13 = some (16, [27], .ifCond .eq 14) := by decide +kernel
theorem eX2_weightOf_16 : mn_dec cX2_weightOf 16 = some (17, [], .aload 0) := by decide +kernel
theorem eX2_weightOf_17 : mn_dec cX2_weightOf 17 = some (20, [], .getfield 21) := by decide +kernel
theorem eX2_weightOf_20 : mn_dec cX2_weightOf 20 = some (21, [], .iload 1) := by decide +kernel
theorem eX2_weightOf_21 : mn_dec cX2_weightOf 21 = some (22, [], .aaload) := by decide +kernel
theorem eX2_weightOf_22 : mn_dec cX2_weightOf 22 = some (23, [], .iload 2) := by decide +kernel
theorem eX2_weightOf_23 : mn_dec cX2_weightOf 23 = some (24, [], .iaload) := by decide +kernel
theorem eX2_weightOf_24 : mn_dec cX2_weightOf 24 = some (27, [28], .goto 4) := by decide +kernel
theorem eX2_weightOf_27 : mn_dec cX2_weightOf 27 = some (28, [], .iconst 0) := by decide +kernel
theorem eX2_weightOf_28 : mn_dec cX2_weightOf 28 = some (29, [], .ireturn) := by decide +kernel
theorem eX2_weigh_0 : mn_dec cX2_weigh 0 = some (1, [], .aload 0) := by decide +kernel
theorem eX2_weigh_1 : mn_dec cX2_weigh 1 = some (2, [], .iload 1) := by decide +kernel
theorem eX2_weigh_2 : mn_dec cX2_weigh 2 = some (5, [], .invokevirtual 39) := by decide +kernel
theorem eX2_weigh_5 : mn_dec cX2_weigh 5 = some (8, [25], .ifCond .eq 20) := by decide +kernel
theorem eX2_weigh_8 : mn_dec cX2_weigh 8 = some (9, [], .aload 0) := by decide +kernel
theorem eX2_weigh_9 : mn_dec cX2_weigh 9 = some (10, [], .iload 2) := by decide +kernel
theorem eX2_weigh_10 : mn_dec cX2_weigh 10 = some (13, [], .invokevirtual 39) := by decide +kernel
theorem eX2_weigh_13 : mn_dec cX2_weigh 13 = some (16, [25], .ifCond .eq 12) := by decide +kernel
theorem eX2_weigh_16 : mn_dec cX2_weigh 16 = some (17, [], .aload 0) := by decide +kernel
theorem eX2_weigh_17 : mn_dec cX2_weigh 17 = some (20, [], .getfield 21) := by decide +kernel
theorem eX2_weigh_20 : mn_dec cX2_weigh 20 = some (21, [], .iload 1) := by decide +kernel
theorem eX2_weigh_21 : mn_dec cX2_weigh 21 = some (22, [], .aaload) := by decide +kernel
theorem eX2_weigh_22 : mn_dec cX2_weigh 22 = some (23, [], .iload 2) := by decide +kernel
theorem eX2_weigh_23 : mn_dec cX2_weigh 23 = some (24, [], .iload 3) := by decide +kernel
theorem eX2_weigh_24 : mn_dec cX2_weigh 24 = some (25, [], .iastore) := by decide +kernel
theorem eX2_weigh_25 : mn_dec cX2_weigh 25 = some (26, [], .return_) := by decide +kernel
theorem eX2_earWidth_0 : mn_dec cX2_earWidth 0 = some (1, [], .aload 0) := by decide +kernel
theorem eX2_earWidth_1 : mn_dec cX2_earWidth 1 = some (4, [], .getfield 28) := by decide +kernel
theorem eX2_earWidth_4 : mn_dec cX2_earWidth 4 = some (5, [], .ireturn) := by decide +kernel
theorem eX2_openEars_0 : mn_dec cX2_openEars 0 = some (1, [], .aload 0) := by decide +kernel
theorem eX2_openEars_1 : mn_dec cX2_openEars 1 = some (2, [], .iload 1) := by decide +kernel
theorem eX2_openEars_2 : mn_dec cX2_openEars 2 = some (5, [], .putfield 28) := by decide +kernel
theorem eX2_openEars_5 : mn_dec cX2_openEars 5 = some (6, [], .return_) := by decide +kernel
theorem eX2_hears_0 : mn_dec cX2_hears 0 = some (1, [], .aload 0) := by decide +kernel
theorem eX2_hears_1 : mn_dec cX2_hears 1 = some (2, [], .iload 1) := by decide +kernel
theorem eX2_hears_2 : mn_dec cX2_hears 2 = some (5, [], .invokevirtual 39) := by decide +kernel
theorem eX2_hears_5 : mn_dec cX2_hears 5 = some (8, [16], .ifCond .eq 11) := by decide +kernel
theorem eX2_hears_8 : mn_dec cX2_hears 8 = some (9, [], .aload 0) := by decide +kernel
theorem eX2_hears_9 : mn_dec cX2_hears 9 = some (10, [], .iload 2) := by decide +kernel
theorem eX2_hears_10 : mn_dec cX2_hears 10 = some (13, [], .invokevirtual 39) := by decide +kernel
theorem eX2_hears_13 : mn_dec cX2_hears 13 = some (16, [18], .ifCond .ne 5) := by decide +kernel
theorem eX2_hears_16 : mn_dec cX2_hears 16 = some (17, [], .iconst 0) := by decide +kernel
theorem eX2_hears_17 : mn_dec cX2_hears 17 = some (18, [], .ireturn) := by decide +kernel
theorem eX2_hears_18 : mn_dec cX2_hears 18 = some (19, [], .iload 1) := by decide +kernel
theorem eX2_hears_19 : mn_dec cX2_hears 19 = some (20, [], .iload 2) := by decide +kernel
theorem eX2_hears_20 : mn_dec cX2_hears 20 = some (23, [57], .if_icmp .eq 37) := by decide +kernel
theorem eX2_hears_23 : mn_dec cX2_hears 23 = some (24, [], .aload 0) := by decide +kernel
theorem eX2_hears_24 : mn_dec cX2_hears 24 = some (27, [], .getfield 21) := by decide +kernel
theorem eX2_hears_27 : mn_dec cX2_hears 27 = some (28, [], .iload 1) := by decide +kernel
theorem eX2_hears_28 : mn_dec cX2_hears 28 = some (29, [], .aaload) := by decide +kernel
theorem eX2_hears_29 : mn_dec cX2_hears 29 = some (30, [], .iload 2) := by decide +kernel
theorem eX2_hears_30 : mn_dec cX2_hears 30 = some (31, [], .iaload) := by decide +kernel
theorem eX2_hears_31 : mn_dec cX2_hears 31 = some (34, [61], .ifCond .le 30) := by decide +kernel
theorem eX2_hears_34 : mn_dec cX2_hears 34 = some (35, [], .aload 0) := by decide +kernel
theorem eX2_hears_35 : mn_dec cX2_hears 35 = some (38, [], .getfield 9) := by decide +kernel
theorem eX2_hears_38 : mn_dec cX2_hears 38 = some (39, [], .iload 1) := by decide +kernel
theorem eX2_hears_39 : mn_dec cX2_hears 39 = some (40, [], .iaload) := by decide +kernel
theorem eX2_hears_40 : mn_dec cX2_hears 40 = some (41, [], .aload 0) := by decide +kernel
theorem eX2_hears_41 : mn_dec cX2_hears 41 = some (44, [], .getfield 9) := by decide +kernel
theorem eX2_hears_44 : mn_dec cX2_hears 44 = some (45, [], .iload 2) := by decide +kernel
theorem eX2_hears_45 : mn_dec cX2_hears 45 = some (46, [], .iaload) := by decide +kernel
theorem eX2_hears_46 : mn_dec cX2_hears 46 = some (47, [], .isub) := by decide +kernel
theorem eX2_hears_47 : mn_dec cX2_hears 47 = some (50, [], .invokestatic 43) := by decide +kernel
theorem eX2_hears_50 : mn_dec cX2_hears 50 = some (51, [], .aload 0) := by decide +kernel
theorem eX2_hears_51 : mn_dec cX2_hears 51 = some (54, [], .getfield 28) := by decide +kernel
theorem eX2_hears_54 : mn_dec cX2_hears 54 = some (57, [61], .if_icmp .gt 7) := by decide +kernel
theorem eX2_hears_57 : mn_dec cX2_hears 57 = some (58, [], .iconst 1) := by decide +kernel
theorem eX2_hears_58 : mn_dec cX2_hears 58 = some (61, [62], .goto 4) := by decide +kernel
theorem eX2_hears_61 : mn_dec cX2_hears 61 = some (62, [], .iconst 0) := by decide +kernel
theorem eX2_hears_62 : mn_dec cX2_hears 62 = some (63, [], .ireturn) := by decide +kernel
theorem eX2_countHeard_0 : mn_dec cX2_countHeard 0 = some (1, [], .iconst 0) := by decide +kernel
theorem eX2_countHeard_1 : mn_dec cX2_countHeard 1 = some (2, [], .istore 2) := by decide +kernel
theorem eX2_countHeard_2 : mn_dec cX2_countHeard 2 = some (3, [], .iconst 0) := by decide +kernel
theorem eX2_countHeard_3 : mn_dec cX2_countHeard 3 = some (4, [], .istore 3) := by decide +kernel
theorem eX2_countHeard_4 : mn_dec cX2_countHeard 4 = some (5, [], .iload 3) := by decide +kernel
theorem eX2_countHeard_5 : mn_dec cX2_countHeard 5 = some (6, [], .aload 0) := by decide +kernel
theorem eX2_countHeard_6 : mn_dec cX2_countHeard 6 = some (9, [], .getfield 24) := by decide +kernel
theorem eX2_countHeard_9 : mn_dec cX2_countHeard 9 = some (12, [35], .if_icmp .ge 26) := by decide +kernel
theorem eX2_countHeard_12 : mn_dec cX2_countHeard 12 = some (13, [], .iload 3) := by decide +kernel
theorem eX2_countHeard_13 : mn_dec cX2_countHeard 13 = some (14, [], .iload 1) := by decide +kernel
theorem eX2_countHeard_14 : mn_dec cX2_countHeard 14 = some (17, [29], .if_icmp .eq 15) := by decide +kernel
theorem eX2_countHeard_17 : mn_dec cX2_countHeard 17 = some (18, [], .aload 0) := by decide +kernel
theorem eX2_countHeard_18 : mn_dec cX2_countHeard 18 = some (19, [], .iload 1) := by decide +kernel
theorem eX2_countHeard_19 : mn_dec cX2_countHeard 19 = some (20, [], .iload 3) := by decide +kernel
theorem eX2_countHeard_20 : mn_dec cX2_countHeard 20 = some (23, [], .invokevirtual 49) := by decide +kernel
theorem eX2_countHeard_23 : mn_dec cX2_countHeard 23 = some (26, [29], .ifCond .eq 6) := by decide +kernel
theorem eX2_countHeard_26 : mn_dec cX2_countHeard 26 = some (29, [], .iinc 2 1) := by decide +kernel
theorem eX2_countHeard_29 : mn_dec cX2_countHeard 29 = some (32, [], .iinc 3 1) := by decide +kernel
theorem eX2_countHeard_32 : mn_dec cX2_countHeard 32 = some (35, [4], .goto (-28)) := by decide +kernel
theorem eX2_countHeard_35 : mn_dec cX2_countHeard 35 = some (36, [], .iload 2) := by decide +kernel
theorem eX2_countHeard_36 : mn_dec cX2_countHeard 36 = some (37, [], .ireturn) := by decide +kernel
theorem eX2_thoughtAfterRound_0 : mn_dec cX2_thoughtAfterRound 0 = some (1, [], .aload 0) := by decide +kernel
theorem eX2_thoughtAfterRound_1 : mn_dec cX2_thoughtAfterRound 1 = some (2, [], .iload 1) := by decide +kernel
theorem eX2_thoughtAfterRound_2 : mn_dec cX2_thoughtAfterRound 2 = some (5, [], .invokevirtual 39) := by decide +kernel
theorem eX2_thoughtAfterRound_5 : mn_dec cX2_thoughtAfterRound 5 = some (8, [17], .ifCond .eq 12) := by decide +kernel
theorem eX2_thoughtAfterRound_8 : mn_dec cX2_thoughtAfterRound 8 = some (9, [], .aload 0) := by decide +kernel
theorem eX2_thoughtAfterRound_9 : mn_dec cX2_thoughtAfterRound 9 = some (12, [], .getfield 15) := by decide +kernel
theorem eX2_thoughtAfterRound_12 : mn_dec cX2_thoughtAfterRound 12 = some (13, [], .iload 1) := by decide +kernel
theorem eX2_thoughtAfterRound_13 : mn_dec cX2_thoughtAfterRound 13 = some (14, [], .baload) := by decide +kernel
theorem eX2_thoughtAfterRound_14 : mn_dec cX2_thoughtAfterRound 14 = some (17, [23], .ifCond .eq 9) := by decide +kernel
theorem eX2_thoughtAfterRound_17 : mn_dec cX2_thoughtAfterRound 17 = some (18, [], .aload 0) := by decide +kernel
theorem eX2_thoughtAfterRound_18 : mn_dec cX2_thoughtAfterRound 18 = some (19, [], .iload 1) := by decide +kernel
theorem eX2_thoughtAfterRound_19 : mn_dec cX2_thoughtAfterRound 19 = some (22, [], .invokevirtual 53) := by decide +kernel
theorem eX2_thoughtAfterRound_22 : mn_dec cX2_thoughtAfterRound 22 = some (23, [], .ireturn) := by decide +kernel
theorem eX2_thoughtAfterRound_23 : mn_dec cX2_thoughtAfterRound 23 = some (24, [], .iconst 0) := by decide +kernel
theorem eX2_thoughtAfterRound_24 : mn_dec cX2_thoughtAfterRound 24 = some (25, [], .istore 2) := by decide +kernel
theorem eX2_thoughtAfterRound_25 : mn_dec cX2_thoughtAfterRound 25 = some (26, [], .iconst 0) := by decide +kernel
theorem eX2_thoughtAfterRound_26 : mn_dec cX2_thoughtAfterRound 26 = some (27, [], .istore 3) := by decide +kernel
theorem eX2_thoughtAfterRound_27 : mn_dec cX2_thoughtAfterRound 27 = some (28, [], .iconst 0) := by decide +kernel
theorem eX2_thoughtAfterRound_28 : mn_dec cX2_thoughtAfterRound 28 = some (30, [], .istore 4) := by decide +kernel
theorem eX2_thoughtAfterRound_30 : mn_dec cX2_thoughtAfterRound 30 = some (32, [], .iload 4) := by decide +kernel
theorem eX2_thoughtAfterRound_32 : mn_dec cX2_thoughtAfterRound 32 = some (33, [], .aload 0) := by decide +kernel
theorem eX2_thoughtAfterRound_33 : mn_dec cX2_thoughtAfterRound 33 = some (36, [], .getfield 24) := by decide +kernel
theorem eX2_thoughtAfterRound_36 : mn_dec cX2_thoughtAfterRound 36 = some (39, [94], .if_icmp .ge 58) := by decide +kernel
theorem eX2_thoughtAfterRound_39 : mn_dec cX2_thoughtAfterRound 39 = some (41, [], .iload 4) := by decide +kernel
theorem eX2_thoughtAfterRound_41 : mn_dec cX2_thoughtAfterRound 41 = some (43, [], .iconst 12) := by decide +kernel
theorem eX2_thoughtAfterRound_43 : mn_dec cX2_thoughtAfterRound 43 = some (46, [94], .if_icmp .ge 51) := by decide +kernel
theorem eX2_thoughtAfterRound_46 : mn_dec cX2_thoughtAfterRound 46 = some (47, [], .aload 0) := by decide +kernel
theorem eX2_thoughtAfterRound_47 : mn_dec cX2_thoughtAfterRound 47 = some (48, [], .iload 1) := by decide +kernel
theorem eX2_thoughtAfterRound_48 : mn_dec cX2_thoughtAfterRound 48 = some (50, [], .iload 4) := by decide +kernel
theorem eX2_thoughtAfterRound_50 : mn_dec cX2_thoughtAfterRound 50 = some (53, [], .invokevirtual 49) := by decide +kernel
theorem eX2_thoughtAfterRound_53 : mn_dec cX2_thoughtAfterRound 53 = some (56, [88], .ifCond .eq 35) := by decide +kernel
theorem eX2_thoughtAfterRound_56 : mn_dec cX2_thoughtAfterRound 56 = some (57, [], .iload 2) := by decide +kernel
theorem eX2_thoughtAfterRound_57 : mn_dec cX2_thoughtAfterRound 57 = some (58, [], .aload 0) := by decide +kernel
theorem eX2_thoughtAfterRound_58 : mn_dec cX2_thoughtAfterRound 58 = some (61, [], .getfield 21) := by decide +kernel
theorem eX2_thoughtAfterRound_61 : mn_dec cX2_thoughtAfterRound 61 = some (62, [], .iload 1) := by decide +kernel
theorem eX2_thoughtAfterRound_62 : mn_dec cX2_thoughtAfterRound 62 = some (63, [], .aaload) := by decide +kernel
theorem eX2_thoughtAfterRound_63 : mn_dec cX2_thoughtAfterRound 63 = some (65, [], .iload 4) := by decide +kernel
theorem eX2_thoughtAfterRound_65 : mn_dec cX2_thoughtAfterRound 65 = some (66, [], .iaload) := by decide +kernel
theorem eX2_thoughtAfterRound_66 : mn_dec cX2_thoughtAfterRound 66 = some (67, [], .aload 0) := by decide +kernel
theorem eX2_thoughtAfterRound_67 : mn_dec cX2_thoughtAfterRound 67 = some (70, [], .getfield 9) := by decide +kernel
theorem eX2_thoughtAfterRound_70 : mn_dec cX2_thoughtAfterRound 70 = some (72, [], .iload 4) := by decide +kernel
theorem eX2_thoughtAfterRound_72 : mn_dec cX2_thoughtAfterRound 72 = some (73, [], .iaload) := by decide +kernel
theorem eX2_thoughtAfterRound_73 : mn_dec cX2_thoughtAfterRound 73 = some (74, [], .imul) := by decide +kernel
theorem eX2_thoughtAfterRound_74 : mn_dec cX2_thoughtAfterRound 74 = some (75, [], .iadd) := by decide +kernel
theorem eX2_thoughtAfterRound_75 : mn_dec cX2_thoughtAfterRound 75 = some (76, [], .istore 2) := by decide +kernel
theorem eX2_thoughtAfterRound_76 : mn_dec cX2_thoughtAfterRound 76 = some (77, [], .iload 3) := by decide +kernel
theorem eX2_thoughtAfterRound_77 : mn_dec cX2_thoughtAfterRound 77 = some (78, [], .aload 0) := by decide +kernel
theorem eX2_thoughtAfterRound_78 : mn_dec cX2_thoughtAfterRound 78 = some (81, [], .getfield 21) := by decide +kernel
theorem eX2_thoughtAfterRound_81 : mn_dec cX2_thoughtAfterRound 81 = some (82, [], .iload 1) := by decide +kernel
theorem eX2_thoughtAfterRound_82 : mn_dec cX2_thoughtAfterRound 82 = some (83, [], .aaload) := by decide +kernel
theorem eX2_thoughtAfterRound_83 : mn_dec cX2_thoughtAfterRound 83 = some (85, [], .iload 4) := by decide +kernel
theorem eX2_thoughtAfterRound_85 : mn_dec cX2_thoughtAfterRound 85 = some (86, [], .iaload) := by decide +kernel
theorem eX2_thoughtAfterRound_86 : mn_dec cX2_thoughtAfterRound 86 = some (87, [], .iadd) := by decide +kernel
theorem eX2_thoughtAfterRound_87 : mn_dec cX2_thoughtAfterRound 87 = some (88, [], .istore 3) := by decide +kernel
theorem eX2_thoughtAfterRound_88 : mn_dec cX2_thoughtAfterRound 88 = some (91, [], .iinc 4 1) := by decide +kernel
theorem eX2_thoughtAfterRound_91 : mn_dec cX2_thoughtAfterRound 91 = some (94, [30], .goto (-61)) := by decide +kernel
theorem eX2_thoughtAfterRound_94 : mn_dec cX2_thoughtAfterRound 94 = some (95, [], .iload 3) := by decide +kernel
theorem eX2_thoughtAfterRound_95 : mn_dec cX2_thoughtAfterRound 95 = some (98, [107], .ifCond .ne 12) := by decide +kernel
theorem eX2_thoughtAfterRound_98 : mn_dec cX2_thoughtAfterRound 98 = some (99, [], .aload 0) := by decide +kernel
theorem eX2_thoughtAfterRound_99 : mn_dec cX2_thoughtAfterRound 99 = some (102, [], .getfield 9) := by decide +kernel
theorem eX2_thoughtAfterRound_102 : mn_dec cX2_thoughtAfterRound 102 = some (103, [], .iload 1) := by decide +kernel
theorem eX2_thoughtAfterRound_103 : mn_dec cX2_thoughtAfterRound 103 = some (104, [], .iaload) := by decide +kernel
theorem eX2_thoughtAfterRound_104 : mn_dec cX2_thoughtAfterRound 104 = some (107, [110], .goto 6) := by decide +kernel
theorem eX2_thoughtAfterRound_107 : mn_dec cX2_thoughtAfterRound 107 = some (108, [], .iload 2) := by decide +kernel
theorem eX2_thoughtAfterRound_108 : mn_dec cX2_thoughtAfterRound 108 = some (109, [], .iload 3) := by decide +kernel
theorem eX2_thoughtAfterRound_109 : mn_dec cX2_thoughtAfterRound 109 = some (110, [], .idiv) := by decide +kernel
theorem eX2_thoughtAfterRound_110 : mn_dec cX2_thoughtAfterRound 110 = some (111, [], .ireturn) := by decide +kernel
theorem eX2_hangTogether_0 : mn_dec cX2_hangTogether 0 = some (1, [], .aload 0) := by decide +kernel
theorem eX2_hangTogether_1 : mn_dec cX2_hangTogether 1 = some (2, [], .iload 1) := by decide +kernel
theorem eX2_hangTogether_2 : mn_dec cX2_hangTogether 2 = some (3, [], .iload 2) := by decide +kernel
theorem eX2_hangTogether_3 : mn_dec cX2_hangTogether 3 = some (6, [], .invokevirtual 49) := by decide +kernel
theorem eX2_hangTogether_6 : mn_dec cX2_hangTogether 6 = some (9, [18], .ifCond .ne 12) := by decide +kernel
theorem eX2_hangTogether_9 : mn_dec cX2_hangTogether 9 = some (10, [], .aload 0) := by decide +kernel
theorem eX2_hangTogether_10 : mn_dec cX2_hangTogether 10 = some (11, [], .iload 2) := by decide +kernel
theorem eX2_hangTogether_11 : mn_dec cX2_hangTogether 11 = some (12, [], .iload 1) := by decide +kernel
theorem eX2_hangTogether_12 : mn_dec cX2_hangTogether 12 = some (15, [], .invokevirtual 49) := by decide +kernel
theorem eX2_hangTogether_15 : mn_dec cX2_hangTogether 15 = some (18, [22], .ifCond .eq 7) := by decide +kernel
theorem eX2_hangTogether_18 : mn_dec cX2_hangTogether 18 = some (19, [], .iconst 1) := by decide +kernel
theorem eX2_hangTogether_19 : mn_dec cX2_hangTogether 19 = some (22, [23], .goto 4) := by decide +kernel
theorem eX2_hangTogether_22 : mn_dec cX2_hangTogether 22 = some (23, [], .iconst 0) := by decide +kernel
theorem eX2_hangTogether_23 : mn_dec cX2_hangTogether 23 = some (24, [], .ireturn) := by decide +kernel
theorem eX2_spread_0 : mn_dec cX2_spread 0 = some (1, [], .aload 0) := by decide +kernel
theorem eX2_spread_1 : mn_dec cX2_spread 1 = some (2, [], .iconst 0) := by decide +kernel
theorem eX2_spread_2 : mn_dec cX2_spread 2 = some (5, [], .invokevirtual 53) := by decide +kernel
theorem eX2_spread_5 : mn_dec cX2_spread 5 = some (6, [], .istore 1) := by decide +kernel
theorem eX2_spread_6 : mn_dec cX2_spread 6 = some (7, [], .iload 1) := by decide +kernel
theorem eX2_spread_7 : mn_dec cX2_spread 7 = some (8, [], .istore 2) := by decide +kernel
theorem eX2_spread_8 : mn_dec cX2_spread 8 = some (9, [], .iconst 1) := by decide +kernel
theorem eX2_spread_9 : mn_dec cX2_spread 9 = some (10, [], .istore 3) := by decide +kernel
theorem eX2_spread_10 : mn_dec cX2_spread 10 = some (11, [], .iload 3) := by decide +kernel
theorem eX2_spread_11 : mn_dec cX2_spread 11 = some (12, [], .aload 0) := by decide +kernel
theorem eX2_spread_12 : mn_dec cX2_spread 12 = some (15, [], .getfield 24) := by decide +kernel
theorem eX2_spread_15 : mn_dec cX2_spread 15 = some (18, [44], .if_icmp .ge 29) := by decide +kernel
theorem eX2_spread_18 : mn_dec cX2_spread 18 = some (19, [], .iload 1) := by decide +kernel
theorem eX2_spread_19 : mn_dec cX2_spread 19 = some (20, [], .aload 0) := by decide +kernel
theorem eX2_spread_20 : mn_dec cX2_spread 20 = some (21, [], .iload 3) := by decide +kernel
theorem eX2_spread_21 : mn_dec cX2_spread 21 = some (24, [], .invokevirtual 53) := by decide +kernel
theorem eX2_spread_24 : mn_dec cX2_spread 24 = some (27, [], .invokestatic 56) := by decide +kernel
theorem eX2_spread_27 : mn_dec cX2_spread 27 = some (28, [], .istore 1) := by decide +kernel
theorem eX2_spread_28 : mn_dec cX2_spread 28 = some (29, [], .iload 2) := by decide +kernel
theorem eX2_spread_29 : mn_dec cX2_spread 29 = some (30, [], .aload 0) := by decide +kernel
theorem eX2_spread_30 : mn_dec cX2_spread 30 = some (31, [], .iload 3) := by decide +kernel
theorem eX2_spread_31 : mn_dec cX2_spread 31 = some (34, [], .invokevirtual 53) := by decide +kernel
theorem eX2_spread_34 : mn_dec cX2_spread 34 = some (37, [], .invokestatic 60) := by decide +kernel
theorem eX2_spread_37 : mn_dec cX2_spread 37 = some (38, [], .istore 2) := by decide +kernel
theorem eX2_spread_38 : mn_dec cX2_spread 38 = some (41, [], .iinc 3 1) := by decide +kernel
theorem eX2_spread_41 : mn_dec cX2_spread 41 = some (44, [10], .goto (-31)) := by decide +kernel
theorem eX2_spread_44 : mn_dec cX2_spread 44 = some (45, [], .iload 2) := by decide +kernel
theorem eX2_spread_45 : mn_dec cX2_spread 45 = some (46, [], .iload 1) := by decide +kernel
theorem eX2_spread_46 : mn_dec cX2_spread 46 = some (47, [], .isub) := by decide +kernel
theorem eX2_spread_47 : mn_dec cX2_spread 47 = some (48, [], .ireturn) := by decide +kernel
theorem eX2_discord_0 : mn_dec cX2_discord 0 = some (1, [], .iconst 0) := by decide +kernel
theorem eX2_discord_1 : mn_dec cX2_discord 1 = some (2, [], .istore 1) := by decide +kernel
theorem eX2_discord_2 : mn_dec cX2_discord 2 = some (3, [], .iconst 0) := by decide +kernel
theorem eX2_discord_3 : mn_dec cX2_discord 3 = some (4, [], .istore 2) := by decide +kernel
theorem eX2_discord_4 : mn_dec cX2_discord 4 = some (5, [], .iload 2) := by decide +kernel
theorem eX2_discord_5 : mn_dec cX2_discord 5 = some (6, [], .aload 0) := by decide +kernel
theorem eX2_discord_6 : mn_dec cX2_discord 6 = some (9, [], .getfield 24) := by decide +kernel
theorem eX2_discord_9 : mn_dec cX2_discord 9 = some (12, [53], .if_icmp .ge 44) := by decide +kernel
theorem eX2_discord_12 : mn_dec cX2_discord 12 = some (13, [], .iload 2) := by decide +kernel
theorem eX2_discord_13 : mn_dec cX2_discord 13 = some (14, [], .iconst 1) := by decide +kernel
theorem eX2_discord_14 : mn_dec cX2_discord 14 = some (15, [], .iadd) := by decide +kernel
theorem eX2_discord_15 : mn_dec cX2_discord 15 = some (16, [], .istore 3) := by decide +kernel
theorem eX2_discord_16 : mn_dec cX2_discord 16 = some (17, [], .iload 3) := by decide +kernel
theorem eX2_discord_17 : mn_dec cX2_discord 17 = some (18, [], .aload 0) := by decide +kernel
theorem eX2_discord_18 : mn_dec cX2_discord 18 = some (21, [], .getfield 24) := by decide +kernel
theorem eX2_discord_21 : mn_dec cX2_discord 21 = some (24, [47], .if_icmp .ge 26) := by decide +kernel
theorem eX2_discord_24 : mn_dec cX2_discord 24 = some (25, [], .iload 1) := by decide +kernel
theorem eX2_discord_25 : mn_dec cX2_discord 25 = some (26, [], .aload 0) := by decide +kernel
theorem eX2_discord_26 : mn_dec cX2_discord 26 = some (27, [], .iload 2) := by decide +kernel
theorem eX2_discord_27 : mn_dec cX2_discord 27 = some (30, [], .invokevirtual 53) := by decide +kernel
theorem eX2_discord_30 : mn_dec cX2_discord 30 = some (31, [], .aload 0) := by decide +kernel
theorem eX2_discord_31 : mn_dec cX2_discord 31 = some (32, [], .iload 3) := by decide +kernel
theorem eX2_discord_32 : mn_dec cX2_discord 32 = some (35, [], .invokevirtual 53) := by decide +kernel
theorem eX2_discord_35 : mn_dec cX2_discord 35 = some (36, [], .isub) := by decide +kernel
theorem eX2_discord_36 : mn_dec cX2_discord 36 = some (39, [], .invokestatic 43) := by decide +kernel
theorem eX2_discord_39 : mn_dec cX2_discord 39 = some (40, [], .iadd) := by decide +kernel
theorem eX2_discord_40 : mn_dec cX2_discord 40 = some (41, [], .istore 1) := by decide +kernel
theorem eX2_discord_41 : mn_dec cX2_discord 41 = some (44, [], .iinc 3 1) := by decide +kernel
theorem eX2_discord_44 : mn_dec cX2_discord 44 = some (47, [16], .goto (-28)) := by decide +kernel
theorem eX2_discord_47 : mn_dec cX2_discord 47 = some (50, [], .iinc 2 1) := by decide +kernel
theorem eX2_discord_50 : mn_dec cX2_discord 50 = some (53, [4], .goto (-46)) := by decide +kernel
theorem eX2_discord_53 : mn_dec cX2_discord 53 = some (54, [], .iload 1) := by decide +kernel
theorem eX2_discord_54 : mn_dec cX2_discord 54 = some (55, [], .ireturn) := by decide +kernel
theorem eX2_sumOfThoughts_0 : mn_dec cX2_sumOfThoughts 0 = some (1, [], .iconst 0) := by decide +kernel
theorem eX2_sumOfThoughts_1 : mn_dec cX2_sumOfThoughts 1 = some (2, [], .istore 1) := by decide +kernel
theorem eX2_sumOfThoughts_2 : mn_dec cX2_sumOfThoughts 2 = some (3, [], .iconst 0) := by decide +kernel
theorem eX2_sumOfThoughts_3 : mn_dec cX2_sumOfThoughts 3 = some (4, [], .istore 2) := by decide +kernel
theorem eX2_sumOfThoughts_4 : mn_dec cX2_sumOfThoughts 4 = some (5, [], .iload 2) := by decide +kernel
theorem eX2_sumOfThoughts_5 : mn_dec cX2_sumOfThoughts 5 = some (6, [], .aload 0) := by decide +kernel
theorem eX2_sumOfThoughts_6 : mn_dec cX2_sumOfThoughts 6 = some (9, [], .getfield 24) := by decide +kernel
theorem eX2_sumOfThoughts_9 : mn_dec cX2_sumOfThoughts 9 = some (12, [26], .if_icmp .ge 17) := by decide +kernel
theorem eX2_sumOfThoughts_12 : mn_dec cX2_sumOfThoughts 12 = some (13, [], .iload 1) := by decide +kernel
theorem eX2_sumOfThoughts_13 : mn_dec cX2_sumOfThoughts 13 = some (14, [], .aload 0) := by decide +kernel
theorem eX2_sumOfThoughts_14 : mn_dec cX2_sumOfThoughts 14 = some (15, [], .iload 2) := by decide +kernel
theorem eX2_sumOfThoughts_15 : mn_dec cX2_sumOfThoughts 15 = some (18, [], .invokevirtual 53) := by decide +kernel
theorem eX2_sumOfThoughts_18 : mn_dec cX2_sumOfThoughts 18 = some (19, [], .iadd) := by decide +kernel
theorem eX2_sumOfThoughts_19 : mn_dec cX2_sumOfThoughts 19 = some (20, [], .istore 1) := by decide +kernel
theorem eX2_sumOfThoughts_20 : mn_dec cX2_sumOfThoughts 20 = some (23, [], .iinc 2 1) := by decide +kernel
theorem eX2_sumOfThoughts_23 : mn_dec cX2_sumOfThoughts 23 = some (26, [4], .goto (-19)) := by decide +kernel
theorem eX2_sumOfThoughts_26 : mn_dec cX2_sumOfThoughts 26 = some (27, [], .iload 1) := by decide +kernel
theorem eX2_sumOfThoughts_27 : mn_dec cX2_sumOfThoughts 27 = some (28, [], .ireturn) := by decide +kernel
theorem eX2_countStubborn_0 : mn_dec cX2_countStubborn 0 = some (1, [], .iconst 0) := by decide +kernel
theorem eX2_countStubborn_1 : mn_dec cX2_countStubborn 1 = some (2, [], .istore 1) := by decide +kernel
theorem eX2_countStubborn_2 : mn_dec cX2_countStubborn 2 = some (3, [], .iconst 0) := by decide +kernel
theorem eX2_countStubborn_3 : mn_dec cX2_countStubborn 3 = some (4, [], .istore 2) := by decide +kernel
theorem eX2_countStubborn_4 : mn_dec cX2_countStubborn 4 = some (5, [], .iload 2) := by decide +kernel
theorem eX2_countStubborn_5 : mn_dec cX2_countStubborn 5 = some (6, [], .aload 0) := by decide +kernel
theorem eX2_countStubborn_6 : mn_dec cX2_countStubborn 6 = some (9, [], .getfield 24) := by decide +kernel
theorem eX2_countStubborn_9 : mn_dec cX2_countStubborn 9 = some (12, [34], .if_icmp .ge 25) := by decide +kernel
theorem eX2_countStubborn_12 : mn_dec cX2_countStubborn 12 = some (13, [], .iload 1) := by decide +kernel
theorem eX2_countStubborn_13 : mn_dec cX2_countStubborn 13 = some (14, [], .aload 0) := by decide +kernel
theorem eX2_countStubborn_14 : mn_dec cX2_countStubborn 14 = some (15, [], .iload 2) := by decide +kernel
theorem eX2_countStubborn_15 : mn_dec cX2_countStubborn 15 = some (18, [], .invokevirtual 63) := by decide +kernel
theorem eX2_countStubborn_18 : mn_dec cX2_countStubborn 18 = some (21, [25], .ifCond .eq 7) := by decide +kernel
theorem eX2_countStubborn_21 : mn_dec cX2_countStubborn 21 = some (22, [], .iconst 1) := by decide +kernel
theorem eX2_countStubborn_22 : mn_dec cX2_countStubborn 22 = some (25, [26], .goto 4) := by decide +kernel
theorem eX2_countStubborn_25 : mn_dec cX2_countStubborn 25 = some (26, [], .iconst 0) := by decide +kernel
theorem eX2_countStubborn_26 : mn_dec cX2_countStubborn 26 = some (27, [], .iadd) := by decide +kernel
theorem eX2_countStubborn_27 : mn_dec cX2_countStubborn 27 = some (28, [], .istore 1) := by decide +kernel
theorem eX2_countStubborn_28 : mn_dec cX2_countStubborn 28 = some (31, [], .iinc 2 1) := by decide +kernel
theorem eX2_countStubborn_31 : mn_dec cX2_countStubborn 31 = some (34, [4], .goto (-27)) := by decide +kernel
theorem eX2_countStubborn_34 : mn_dec cX2_countStubborn 34 = some (35, [], .iload 1) := by decide +kernel
theorem eX2_countStubborn_35 : mn_dec cX2_countStubborn 35 = some (36, [], .ireturn) := by decide +kernel
theorem eX2_countMoving_0 : mn_dec cX2_countMoving 0 = some (1, [], .aload 0) := by decide +kernel
theorem eX2_countMoving_1 : mn_dec cX2_countMoving 1 = some (4, [], .getfield 24) := by decide +kernel
theorem eX2_countMoving_4 : mn_dec cX2_countMoving 4 = some (5, [], .aload 0) := by decide +kernel
theorem eX2_countMoving_5 : mn_dec cX2_countMoving 5 = some (8, [], .invokevirtual 66) := by decide +kernel
theorem eX2_countMoving_8 : mn_dec cX2_countMoving 8 = some (9, [], .isub) := by decide +kernel
theorem eX2_countMoving_9 : mn_dec cX2_countMoving 9 = some (10, [], .ireturn) := by decide +kernel
theorem eX3_isTold_0 : mn_dec cX3_isTold 0 = some (1, [], .aload 1) := by decide +kernel
theorem eX3_isTold_1 : mn_dec cX3_isTold 1 = some (4, [], .invokevirtual 30) := by decide +kernel
theorem eX3_isTold_4 : mn_dec cX3_isTold 4 = some (5, [], .iconst 1) := by decide +kernel
theorem eX3_isTold_5 : mn_dec cX3_isTold 5 = some (7, [], .iconst 6) := by decide +kernel
theorem eX3_isTold_7 : mn_dec cX3_isTold 7 = some (10, [], .invokestatic 36) := by decide +kernel
theorem eX3_isTold_10 : mn_dec cX3_isTold 10 = some (13, [15], .ifCond .ne 5) := by decide +kernel
theorem eX3_isTold_13 : mn_dec cX3_isTold 13 = some (14, [], .iconst 0) := by decide +kernel
theorem eX3_isTold_14 : mn_dec cX3_isTold 14 = some (15, [], .ireturn) := by decide +kernel
theorem eX3_isTold_15 : mn_dec cX3_isTold 15 = some (16, [], .aload 2) := by decide +kernel
theorem eX3_isTold_16 : mn_dec cX3_isTold 16 = some (17, [], .aload 1) := by decide +kernel
theorem eX3_isTold_17 : mn_dec cX3_isTold 17 = some (20, [], .invokevirtual 40) := by decide +kernel
theorem eX3_isTold_20 : mn_dec cX3_isTold 20 = some (21, [], .iconst 0) := by decide +kernel
theorem eX3_isTold_21 : mn_dec cX3_isTold 21 = some (22, [], .istore 3) := by decide +kernel
theorem eX3_isTold_22 : mn_dec cX3_isTold 22 = some (23, [], .iload 3) := by decide +kernel
theorem eX3_isTold_23 : mn_dec cX3_isTold 23 = some (24, [], .aload 1) := by decide +kernel
theorem eX3_isTold_24 : mn_dec cX3_isTold 24 = some (27, [], .invokevirtual 46) := by decide +kernel
theorem eX3_isTold_27 : mn_dec cX3_isTold 27 = some (30, [55], .if_icmp .ge 28) := by decide +kernel
theorem eX3_isTold_30 : mn_dec cX3_isTold 30 = some (31, [], .aload 1) := by decide +kernel
theorem eX3_isTold_31 : mn_dec cX3_isTold 31 = some (32, [], .iload 3) := by decide +kernel
theorem eX3_isTold_32 : mn_dec cX3_isTold 32 = some (35, [], .invokevirtual 49) := by decide +kernel
theorem eX3_isTold_35 : mn_dec cX3_isTold 35 = some (38, [49], .ifCond .ne 14) := by decide +kernel
theorem eX3_isTold_38 : mn_dec cX3_isTold 38 = some (39, [], .aload 1) := by decide +kernel
theorem eX3_isTold_39 : mn_dec cX3_isTold 39 = some (40, [], .aload 2) := by decide +kernel
theorem eX3_isTold_40 : mn_dec cX3_isTold 40 = some (41, [], .iload 3) := by decide +kernel
theorem eX3_isTold_41 : mn_dec cX3_isTold 41 = some (44, [], .invokestatic 53) := by decide +kernel
theorem eX3_isTold_44 : mn_dec cX3_isTold 44 = some (47, [49], .ifCond .ne 5) := by decide +kernel
theorem eX3_isTold_47 : mn_dec cX3_isTold 47 = some (48, [], .iconst 0) := by decide +kernel
theorem eX3_isTold_48 : mn_dec cX3_isTold 48 = some (49, [], .ireturn) := by decide +kernel
theorem eX3_isTold_49 : mn_dec cX3_isTold 49 = some (52, [], .iinc 3 1) := by decide +kernel
theorem eX3_isTold_52 : mn_dec cX3_isTold 52 = some (55, [22], .goto (-30)) := by decide +kernel
theorem eX3_isTold_55 : mn_dec cX3_isTold 55 = some (56, [], .iconst 1) := by decide +kernel
theorem eX3_isTold_56 : mn_dec cX3_isTold 56 = some (57, [], .ireturn) := by decide +kernel
theorem eX3_work_0 : mn_dec cX3_work 0 = some (1, [], .aload 0) := by decide +kernel
theorem eX3_work_1 : mn_dec cX3_work 1 = some (2, [], .aload 1) := by decide +kernel
theorem eX3_work_2 : mn_dec cX3_work 2 = some (5, [], .invokevirtual 57) := by decide +kernel
theorem eX3_work_5 : mn_dec cX3_work 5 = some (6, [], .aload 0) := by decide +kernel
theorem eX3_work_6 : mn_dec cX3_work 6 = some (7, [], .aload 1) := by decide +kernel
theorem eX3_work_7 : mn_dec cX3_work 7 = some (10, [], .invokevirtual 60) := by decide +kernel
theorem eX3_work_10 : mn_dec cX3_work 10 = some (11, [], .aload 0) := by decide +kernel
theorem eX3_work_11 : mn_dec cX3_work 11 = some (12, [], .aload 0) := by decide +kernel
theorem eX3_work_12 : mn_dec cX3_work 12 = some (15, [], .getfield 12) := by decide +kernel
theorem eX3_work_15 : mn_dec cX3_work 15 = some (16, [], .iconst (-1)) := by decide +kernel
theorem eX3_work_16 : mn_dec cX3_work 16 = some (19, [], .invokevirtual 63) := by decide +kernel
theorem eX3_work_19 : mn_dec cX3_work 19 = some (22, [], .putfield 26) := by decide +kernel
theorem eX3_work_22 : mn_dec cX3_work 22 = some (23, [], .iconst 0) := by decide +kernel
theorem eX3_work_23 : mn_dec cX3_work 23 = some (24, [], .istore 2) := by decide +kernel
theorem eX3_work_24 : mn_dec cX3_work 24 = some (25, [], .iload 2) := by decide +kernel
theorem eX3_work_25 : mn_dec cX3_work 25 = some (26, [], .aload 1) := by decide +kernel
theorem eX3_work_26 : mn_dec cX3_work 26 = some (29, [], .invokevirtual 46) := by decide +kernel
theorem eX3_work_29 : mn_dec cX3_work 29 = some (32, [87], .if_icmp .ge 58) := by decide +kernel
theorem eX3_work_32 : mn_dec cX3_work 32 = some (33, [], .iload 2) := by decide +kernel
theorem eX3_work_33 : mn_dec cX3_work 33 = some (35, [], .iconst 12) := by decide +kernel
theorem eX3_work_35 : mn_dec cX3_work 35 = some (38, [87], .if_icmp .ge 52) := by decide +kernel
theorem eX3_work_38 : mn_dec cX3_work 38 = some (39, [], .aload 1) := by decide +kernel
theorem eX3_work_39 : mn_dec cX3_work 39 = some (40, [], .iload 2) := by decide +kernel
theorem eX3_work_40 : mn_dec cX3_work 40 = some (43, [], .invokevirtual 49) := by decide +kernel
theorem eX3_work_43 : mn_dec cX3_work 43 = some (44, [], .istore 3) := by decide +kernel
theorem eX3_work_44 : mn_dec cX3_work 44 = some (45, [], .aload 0) := by decide +kernel
theorem eX3_work_45 : mn_dec cX3_work 45 = some (48, [], .getfield 22) := by decide +kernel
theorem eX3_work_48 : mn_dec cX3_work 48 = some (49, [], .iload 2) := by decide +kernel
theorem eX3_work_49 : mn_dec cX3_work 49 = some (50, [], .iload 3) := by decide +kernel
theorem eX3_work_50 : mn_dec cX3_work 50 = some (53, [67], .ifCond .eq 17) := by decide +kernel
theorem eX3_work_53 : mn_dec cX3_work 53 = some (54, [], .aload 1) := by decide +kernel
theorem eX3_work_54 : mn_dec cX3_work 54 = some (55, [], .iload 2) := by decide +kernel
theorem eX3_work_55 : mn_dec cX3_work 55 = some (58, [], .invokevirtual 67) := by decide +kernel
theorem eX3_work_58 : mn_dec cX3_work 58 = some (59, [], .i2l) := by decide +kernel
theorem eX3_work_59 : mn_dec cX3_work 59 = some (60, [], .aload 0) := by decide +kernel
theorem eX3_work_60 : mn_dec cX3_work 60 = some (63, [], .getfield 26) := by decide +kernel
theorem eX3_work_63 : mn_dec cX3_work 63 = some (64, [], .lmul) := by decide +kernel
theorem eX3_work_64 : mn_dec cX3_work 64 = some (67, [80], .goto 16) := by decide +kernel
theorem eX3_work_67 : mn_dec cX3_work 67 = some (68, [], .aload 0) := by decide +kernel
theorem eX3_work_68 : mn_dec cX3_work 68 = some (71, [], .getfield 12) := by decide +kernel
theorem eX3_work_71 : mn_dec cX3_work 71 = some (72, [], .aload 0) := by decide +kernel
theorem eX3_work_72 : mn_dec cX3_work 72 = some (75, [], .getfield 18) := by decide +kernel
theorem eX3_work_75 : mn_dec cX3_work 75 = some (76, [], .iload 2) := by decide +kernel
theorem eX3_work_76 : mn_dec cX3_work 76 = some (77, [], .iaload) := by decide +kernel
theorem eX3_work_77 : mn_dec cX3_work 77 = some (80, [], .invokevirtual 63) := by decide +kernel
theorem eX3_work_80 : mn_dec cX3_work 80 = some (81, [], .lastore) := by decide +kernel
theorem eX3_work_81 : mn_dec cX3_work 81 = some (84, [], .iinc 2 1) := by decide +kernel
theorem eX3_work_84 : mn_dec cX3_work 84 = some (87, [24], .goto (-60)) := by decide +kernel
theorem eX3_work_87 : mn_dec cX3_work 87 = some (88, [], .return_) := by decide +kernel
theorem eX3_upperOf_0 : mn_dec cX3_upperOf 0 = some (1, [], .iload 1) := by decide +kernel
theorem eX3_upperOf_1 : mn_dec cX3_upperOf 1 = some (4, [22], .ifCond .lt 21) := by decide +kernel
theorem eX3_upperOf_4 : mn_dec cX3_upperOf 4 = some (5, [], .iload 1) := by decide +kernel
theorem eX3_upperOf_5 : mn_dec cX3_upperOf 5 = some (6, [], .aload 0) := by decide +kernel
theorem eX3_upperOf_6 : mn_dec cX3_upperOf 6 = some (9, [], .getfield 22) := by decide +kernel
theorem eX3_upperOf_9 : mn_dec cX3_upperOf 9 = some (10, [], .arraylength) := by decide +kernel
theorem eX3_upperOf_10 : mn_dec cX3_upperOf 10 = some (13, [22], .if_icmp .ge 12) := by decide +kernel
theorem eX3_upperOf_13 : mn_dec cX3_upperOf 13 = some (14, [], .aload 0) := by decide +kernel
theorem eX3_upperOf_14 : mn_dec cX3_upperOf 14 = some (17, [], .getfield 22) := by decide +kernel
theorem eX3_upperOf_17 : mn_dec cX3_upperOf 17 = some (18, [], .iload 1) := by decide +kernel
theorem eX3_upperOf_18 : mn_dec cX3_upperOf 18 = some (19, [], .laload) := by decide +kernel
theorem eX3_upperOf_19 : mn_dec cX3_upperOf 19 = some (22, [23], .goto 4) := by decide +kernel
theorem eX3_upperOf_22 : mn_dec cX3_upperOf 22 = some (23, [], .lconst 0) := by decide +kernel
theorem eX3_upperOf_23 : mn_dec cX3_upperOf 23 = some (24, [], .lreturn) := by decide +kernel
theorem eX3_lowerOfAll_0 : mn_dec cX3_lowerOfAll 0 = some (1, [], .aload 0) := by decide +kernel
theorem eX3_lowerOfAll_1 : mn_dec cX3_lowerOfAll 1 = some (4, [], .getfield 26) := by decide +kernel
theorem eX3_lowerOfAll_4 : mn_dec cX3_lowerOfAll 4 = some (5, [], .lreturn) := by decide +kernel
theorem eX3_sumOfUppers_0 : mn_dec cX3_sumOfUppers 0 = some (1, [], .lconst 0) := by decide +kernel
theorem eX3_sumOfUppers_1 : mn_dec cX3_sumOfUppers 1 = some (2, [], .lstore 2) := by decide +kernel
theorem eX3_sumOfUppers_2 : mn_dec cX3_sumOfUppers 2 = some (3, [], .iconst 0) := by decide +kernel
theorem eX3_sumOfUppers_3 : mn_dec cX3_sumOfUppers 3 = some (5, [], .istore 4) := by decide +kernel
theorem eX3_sumOfUppers_5 : mn_dec cX3_sumOfUppers 5 = some (7, [], .iload 4) := by decide +kernel
theorem eX3_sumOfUppers_7 : mn_dec cX3_sumOfUppers 7 = some (8, [], .aload 1) := by decide +kernel
theorem eX3_sumOfUppers_8 : mn_dec cX3_sumOfUppers 8 = some (11, [], .invokevirtual 46) := by decide +kernel
theorem eX3_sumOfUppers_11 : mn_dec cX3_sumOfUppers 11 = some (14, [29], .if_icmp .ge 18) := by decide +kernel
theorem eX3_sumOfUppers_14 : mn_dec cX3_sumOfUppers 14 = some (15, [], .lload 2) := by decide +kernel
theorem eX3_sumOfUppers_15 : mn_dec cX3_sumOfUppers 15 = some (16, [], .aload 0) := by decide +kernel
theorem eX3_sumOfUppers_16 : mn_dec cX3_sumOfUppers 16 = some (18, [], .iload 4) := by decide +kernel
theorem eX3_sumOfUppers_18 : mn_dec cX3_sumOfUppers 18 = some (21, [], .invokevirtual 71) := by decide +kernel
theorem eX3_sumOfUppers_21 : mn_dec cX3_sumOfUppers 21 = some (22, [], .ladd) := by decide +kernel
theorem eX3_sumOfUppers_22 : mn_dec cX3_sumOfUppers 22 = some (23, [], .lstore 2) := by decide +kernel
theorem eX3_sumOfUppers_23 : mn_dec cX3_sumOfUppers 23 = some (26, [], .iinc 4 1) := by decide +kernel
theorem eX3_sumOfUppers_26 : mn_dec cX3_sumOfUppers 26 = some (29, [5], .goto (-21)) := by decide +kernel
theorem eX3_sumOfUppers_29 : mn_dec cX3_sumOfUppers 29 = some (30, [], .lload 2) := by decide +kernel
theorem eX3_sumOfUppers_30 : mn_dec cX3_sumOfUppers 30 = some (31, [], .lreturn) := by decide +kernel
theorem eX3_isLedByStubborn_0 : mn_dec cX3_isLedByStubborn 0 = some (1, [], .iconst 0) := by decide +kernel
theorem eX3_isLedByStubborn_1 : mn_dec cX3_isLedByStubborn 1 = some (2, [], .istore 3) := by decide +kernel
theorem eX3_isLedByStubborn_2 : mn_dec cX3_isLedByStubborn 2 = some (3, [], .iload 3) := by decide +kernel
theorem eX3_isLedByStubborn_3 : mn_dec cX3_isLedByStubborn 3 = some (4, [], .aload 0) := by decide +kernel
theorem eX3_isLedByStubborn_4 : mn_dec cX3_isLedByStubborn 4 = some (7, [], .invokevirtual 46) := by decide +kernel
theorem eX3_isLedByStubborn_7 : mn_dec cX3_isLedByStubborn 7 = some (10, [35], .if_icmp .ge 28) := by decide +kernel
theorem eX3_isLedByStubborn_10 : mn_dec cX3_isLedByStubborn 10 = some (11, [], .aload 0) := by decide +kernel
theorem eX3_isLedByStubborn_11 : mn_dec cX3_isLedByStubborn 11 = some (12, [], .iload 3) := by decide +kernel
theorem eX3_isLedByStubborn_12 : mn_dec cX3_isLedByStubborn 12 = some (15, [], .invokevirtual 49) := by decide +kernel
theorem eX3_isLedByStubborn_15 : mn_dec cX3_isLedByStubborn 15 = some (18, [29], .ifCond .eq 14) := by decide +kernel
theorem eX3_isLedByStubborn_18 : mn_dec cX3_isLedByStubborn 18 = some (19, [], .aload 1) := by decide +kernel
theorem eX3_isLedByStubborn_19 : mn_dec cX3_isLedByStubborn 19 = some (20, [], .iload 3) := by decide +kernel
theorem eX3_isLedByStubborn_20 : mn_dec cX3_isLedByStubborn 20 = some (21, [], .iload 2) := by decide +kernel
theorem eX3_isLedByStubborn_21 : mn_dec cX3_isLedByStubborn 21 = some (24, [], .invokevirtual 74) := by decide +kernel
theorem eX3_isLedByStubborn_24 : mn_dec cX3_isLedByStubborn 24 = some (27, [29], .ifCond .eq 5) := by decide +kernel
theorem eX3_isLedByStubborn_27 : mn_dec cX3_isLedByStubborn 27 = some (28, [], .iconst 1) := by decide +kernel
theorem eX3_isLedByStubborn_28 : mn_dec cX3_isLedByStubborn 28 = some (29, [], .ireturn) := by decide +kernel
theorem eX3_isLedByStubborn_29 : mn_dec cX3_isLedByStubborn 29 = some (32, [], .iinc 3 1) := by decide +kernel
theorem eX3_isLedByStubborn_32 : mn_dec cX3_isLedByStubborn 32 = some (35, [2], .goto (-30)) := by decide +kernel
theorem eX3_isLedByStubborn_35 : mn_dec cX3_isLedByStubborn 35 = some (36, [], .iconst 0) := by decide +kernel
theorem eX3_isLedByStubborn_36 : mn_dec cX3_isLedByStubborn 36 = some (37, [], .ireturn) := by decide +kernel
theorem eX3_numberMoving_0 : mn_dec cX3_numberMoving 0 = some (1, [], .iconst 0) := by decide +kernel
theorem eX3_numberMoving_1 : mn_dec cX3_numberMoving 1 = some (2, [], .istore 2) := by decide +kernel
theorem eX3_numberMoving_2 : mn_dec cX3_numberMoving 2 = some (3, [], .iconst 0) := by decide +kernel
theorem eX3_numberMoving_3 : mn_dec cX3_numberMoving 3 = some (4, [], .istore 3) := by decide +kernel
theorem eX3_numberMoving_4 : mn_dec cX3_numberMoving 4 = some (5, [], .iload 3) := by decide +kernel
theorem eX3_numberMoving_5 : mn_dec cX3_numberMoving 5 = some (6, [], .aload 1) := by decide +kernel
theorem eX3_numberMoving_6 : mn_dec cX3_numberMoving 6 = some (9, [], .invokevirtual 46) := by decide +kernel
theorem eX3_numberMoving_9 : mn_dec cX3_numberMoving 9 = some (12, [50], .if_icmp .ge 41) := by decide +kernel
theorem eX3_numberMoving_12 : mn_dec cX3_numberMoving 12 = some (13, [], .iload 3) := by decide +kernel
theorem eX3_numberMoving_13 : mn_dec cX3_numberMoving 13 = some (14, [], .aload 0) := by decide +kernel
theorem eX3_numberMoving_14 : mn_dec cX3_numberMoving 14 = some (17, [], .getfield 18) := by decide +kernel
theorem eX3_numberMoving_17 : mn_dec cX3_numberMoving 17 = some (18, [], .arraylength) := by decide +kernel
theorem eX3_numberMoving_18 : mn_dec cX3_numberMoving 18 = some (21, [50], .if_icmp .ge 32) := by decide +kernel
theorem eX3_numberMoving_21 : mn_dec cX3_numberMoving 21 = some (22, [], .aload 0) := by decide +kernel
theorem eX3_numberMoving_22 : mn_dec cX3_numberMoving 22 = some (25, [], .getfield 18) := by decide +kernel
theorem eX3_numberMoving_25 : mn_dec cX3_numberMoving 25 = some (26, [], .iload 3) := by decide +kernel
theorem eX3_numberMoving_26 : mn_dec cX3_numberMoving 26 = some (27, [], .iload 2) := by decide +kernel
theorem eX3_numberMoving_27 : mn_dec cX3_numberMoving 27 = some (28, [], .iastore) := by decide +kernel
theorem eX3_numberMoving_28 : mn_dec cX3_numberMoving 28 = some (29, [], .iload 2) := by decide +kernel
theorem eX3_numberMoving_29 : mn_dec cX3_numberMoving 29 = some (30, [], .aload 1) := by decide +kernel
theorem eX3_numberMoving_30 : mn_dec cX3_numberMoving 30 = some (31, [], .iload 3) := by decide +kernel
theorem eX3_numberMoving_31 : mn_dec cX3_numberMoving 31 = some (34, [], .invokevirtual 49) := by decide +kernel
theorem eX3_numberMoving_34 : mn_dec cX3_numberMoving 34 = some (37, [41], .ifCond .eq 7) := by decide +kernel
theorem eX3_numberMoving_37 : mn_dec cX3_numberMoving 37 = some (38, [], .iconst 0) := by decide +kernel
theorem eX3_numberMoving_38 : mn_dec cX3_numberMoving 38 = some (41, [42], .goto 4) := by decide +kernel
theorem eX3_numberMoving_41 : mn_dec cX3_numberMoving 41 = some (42, [], .iconst 1) := by decide +kernel
theorem eX3_numberMoving_42 : mn_dec cX3_numberMoving 42 = some (43, [], .iadd) := by decide +kernel
theorem eX3_numberMoving_43 : mn_dec cX3_numberMoving 43 = some (44, [], .istore 2) := by decide +kernel
theorem eX3_numberMoving_44 : mn_dec cX3_numberMoving 44 = some (47, [], .iinc 3 1) := by decide +kernel
theorem eX3_numberMoving_47 : mn_dec cX3_numberMoving 47 = some (50, [4], .goto (-43)) := by decide +kernel
theorem eX3_numberMoving_50 : mn_dec cX3_numberMoving 50 = some (51, [], .aload 0) := by decide +kernel
theorem eX3_numberMoving_51 : mn_dec cX3_numberMoving 51 = some (54, [], .getfield 12) := by decide +kernel
theorem eX3_numberMoving_54 : mn_dec cX3_numberMoving 54 = some (55, [], .iload 2) := by decide +kernel
theorem eX3_numberMoving_55 : mn_dec cX3_numberMoving 55 = some (58, [], .invokevirtual 78) := by decide +kernel
theorem eX3_numberMoving_58 : mn_dec cX3_numberMoving 58 = some (59, [], .return_) := by decide +kernel
theorem eX3_fillSquare_0 : mn_dec cX3_fillSquare 0 = some (1, [], .iconst 0) := by decide +kernel
theorem eX3_fillSquare_1 : mn_dec cX3_fillSquare 1 = some (2, [], .istore 2) := by decide +kernel
theorem eX3_fillSquare_2 : mn_dec cX3_fillSquare 2 = some (3, [], .iload 2) := by decide +kernel
theorem eX3_fillSquare_3 : mn_dec cX3_fillSquare 3 = some (4, [], .aload 1) := by decide +kernel
theorem eX3_fillSquare_4 : mn_dec cX3_fillSquare 4 = some (7, [], .invokevirtual 46) := by decide +kernel
theorem eX3_fillSquare_7 : mn_dec cX3_fillSquare 7 = some (10, [45], .if_icmp .ge 38) := by decide +kernel
theorem eX3_fillSquare_10 : mn_dec cX3_fillSquare 10 = some (11, [], .iload 2) := by decide +kernel
theorem eX3_fillSquare_11 : mn_dec cX3_fillSquare 11 = some (12, [], .aload 0) := by decide +kernel
theorem eX3_fillSquare_12 : mn_dec cX3_fillSquare 12 = some (15, [], .getfield 18) := by decide +kernel
theorem eX3_fillSquare_15 : mn_dec cX3_fillSquare 15 = some (16, [], .arraylength) := by decide +kernel
theorem eX3_fillSquare_16 : mn_dec cX3_fillSquare 16 = some (19, [45], .if_icmp .ge 29) := by decide +kernel
theorem eX3_fillSquare_19 : mn_dec cX3_fillSquare 19 = some (20, [], .aload 1) := by decide +kernel
theorem eX3_fillSquare_20 : mn_dec cX3_fillSquare 20 = some (21, [], .iload 2) := by decide +kernel
theorem eX3_fillSquare_21 : mn_dec cX3_fillSquare 21 = some (24, [], .invokevirtual 49) := by decide +kernel
theorem eX3_fillSquare_24 : mn_dec cX3_fillSquare 24 = some (27, [39], .ifCond .ne 15) := by decide +kernel
theorem eX3_fillSquare_27 : mn_dec cX3_fillSquare 27 = some (28, [], .aload 0) := by decide +kernel
theorem eX3_fillSquare_28 : mn_dec cX3_fillSquare 28 = some (29, [], .aload 1) := by decide +kernel
theorem eX3_fillSquare_29 : mn_dec cX3_fillSquare 29 = some (30, [], .iload 2) := by decide +kernel
theorem eX3_fillSquare_30 : mn_dec cX3_fillSquare 30 = some (31, [], .aload 0) := by decide +kernel
theorem eX3_fillSquare_31 : mn_dec cX3_fillSquare 31 = some (34, [], .getfield 18) := by decide +kernel
theorem eX3_fillSquare_34 : mn_dec cX3_fillSquare 34 = some (35, [], .iload 2) := by decide +kernel
theorem eX3_fillSquare_35 : mn_dec cX3_fillSquare 35 = some (36, [], .iaload) := by decide +kernel
theorem eX3_fillSquare_36 : mn_dec cX3_fillSquare 36 = some (39, [], .invokevirtual 82) := by decide +kernel
theorem eX3_fillSquare_39 : mn_dec cX3_fillSquare 39 = some (42, [], .iinc 2 1) := by decide +kernel
theorem eX3_fillSquare_42 : mn_dec cX3_fillSquare 42 = some (45, [2], .goto (-40)) := by decide +kernel
theorem eX3_fillSquare_45 : mn_dec cX3_fillSquare 45 = some (46, [], .return_) := by decide +kernel
theorem eX3_fillRow_0 : mn_dec cX3_fillRow 0 = some (1, [], .iconst 0) := by decide +kernel
theorem eX3_fillRow_1 : mn_dec cX3_fillRow 1 = some (3, [], .istore 4) := by decide +kernel
theorem eX3_fillRow_3 : mn_dec cX3_fillRow 3 = some (5, [], .iload 4) := by decide +kernel
theorem eX3_fillRow_5 : mn_dec cX3_fillRow 5 = some (6, [], .aload 1) := by decide +kernel
theorem eX3_fillRow_6 : mn_dec cX3_fillRow 6 = some (9, [], .invokevirtual 46) := by decide +kernel
theorem eX3_fillRow_9 : mn_dec cX3_fillRow 9 = some (12, [109], .if_icmp .ge 100) := by decide +kernel
theorem eX3_fillRow_12 : mn_dec cX3_fillRow 12 = some (14, [], .iload 4) := by decide +kernel
theorem eX3_fillRow_14 : mn_dec cX3_fillRow 14 = some (15, [], .aload 0) := by decide +kernel
theorem eX3_fillRow_15 : mn_dec cX3_fillRow 15 = some (18, [], .getfield 18) := by decide +kernel
theorem eX3_fillRow_18 : mn_dec cX3_fillRow 18 = some (19, [], .arraylength) := by decide +kernel
theorem eX3_fillRow_19 : mn_dec cX3_fillRow 19 = some (22, [109], .if_icmp .ge 90) := by decide +kernel
theorem eX3_fillRow_22 : mn_dec cX3_fillRow 22 = some (24, [], .iload 4) := by decide +kernel
theorem eX3_fillRow_24 : mn_dec cX3_fillRow 24 = some (25, [], .iload 2) := by decide +kernel
theorem eX3_fillRow_25 : mn_dec cX3_fillRow 25 = some (28, [32], .if_icmp .ne 7) := by decide +kernel
theorem eX3_fillRow_28 : mn_dec cX3_fillRow 28 = some (29, [], .iconst 0) := by decide +kernel
theorem eX3_fillRow_29 : mn_dec cX3_fillRow 29 = some (32, [39], .goto 10) := by decide +kernel
theorem eX3_fillRow_32 : mn_dec cX3_fillRow 32 = some (33, [], .aload 1) := by decide +kernel
theorem eX3_fillRow_33 : mn_dec cX3_fillRow 33 = some (34, [], .iload 2) := by decide +kernel
theorem eX3_fillRow_34 : mn_dec cX3_fillRow 34 = some (36, [], .iload 4) := by decide +kernel
theorem eX3_fillRow_36 : mn_dec cX3_fillRow 36 = some (39, [], .invokevirtual 86) := by decide +kernel
theorem eX3_fillRow_39 : mn_dec cX3_fillRow 39 = some (41, [], .istore 5) := by decide +kernel
theorem eX3_fillRow_41 : mn_dec cX3_fillRow 41 = some (42, [], .aload 0) := by decide +kernel
theorem eX3_fillRow_42 : mn_dec cX3_fillRow 42 = some (45, [], .getfield 12) := by decide +kernel
theorem eX3_fillRow_45 : mn_dec cX3_fillRow 45 = some (46, [], .iload 3) := by decide +kernel
theorem eX3_fillRow_46 : mn_dec cX3_fillRow 46 = some (47, [], .iload 3) := by decide +kernel
theorem eX3_fillRow_47 : mn_dec cX3_fillRow 47 = some (49, [], .iload 5) := by decide +kernel
theorem eX3_fillRow_49 : mn_dec cX3_fillRow 49 = some (50, [], .i2l) := by decide +kernel
theorem eX3_fillRow_50 : mn_dec cX3_fillRow 50 = some (53, [], .invokevirtual 90) := by decide +kernel
theorem eX3_fillRow_53 : mn_dec cX3_fillRow 53 = some (54, [], .aload 1) := by decide +kernel
theorem eX3_fillRow_54 : mn_dec cX3_fillRow 54 = some (56, [], .iload 4) := by decide +kernel
theorem eX3_fillRow_56 : mn_dec cX3_fillRow 56 = some (59, [], .invokevirtual 49) := by decide +kernel
theorem eX3_fillRow_59 : mn_dec cX3_fillRow 59 = some (62, [84], .ifCond .eq 25) := by decide +kernel
theorem eX3_fillRow_62 : mn_dec cX3_fillRow 62 = some (63, [], .aload 0) := by decide +kernel
theorem eX3_fillRow_63 : mn_dec cX3_fillRow 63 = some (66, [], .getfield 12) := by decide +kernel
theorem eX3_fillRow_66 : mn_dec cX3_fillRow 66 = some (67, [], .iload 3) := by decide +kernel
theorem eX3_fillRow_67 : mn_dec cX3_fillRow 67 = some (69, [], .iload 5) := by decide +kernel
theorem eX3_fillRow_69 : mn_dec cX3_fillRow 69 = some (70, [], .i2l) := by decide +kernel
theorem eX3_fillRow_70 : mn_dec cX3_fillRow 70 = some (71, [], .aload 1) := by decide +kernel
theorem eX3_fillRow_71 : mn_dec cX3_fillRow 71 = some (73, [], .iload 4) := by decide +kernel
theorem eX3_fillRow_73 : mn_dec cX3_fillRow 73 = some (76, [], .invokevirtual 67) := by decide +kernel
theorem eX3_fillRow_76 : mn_dec cX3_fillRow 76 = some (77, [], .i2l) := by decide +kernel
theorem eX3_fillRow_77 : mn_dec cX3_fillRow 77 = some (78, [], .lmul) := by decide +kernel
theorem eX3_fillRow_78 : mn_dec cX3_fillRow 78 = some (81, [], .invokevirtual 94) := by decide +kernel
theorem eX3_fillRow_81 : mn_dec cX3_fillRow 81 = some (84, [103], .goto 22) := by decide +kernel
theorem eX3_fillRow_84 : mn_dec cX3_fillRow 84 = some (85, [], .aload 0) := by decide +kernel
theorem eX3_fillRow_85 : mn_dec cX3_fillRow 85 = some (88, [], .getfield 12) := by decide +kernel
theorem eX3_fillRow_88 : mn_dec cX3_fillRow 88 = some (89, [], .iload 3) := by decide +kernel
theorem eX3_fillRow_89 : mn_dec cX3_fillRow 89 = some (90, [], .aload 0) := by decide +kernel
theorem eX3_fillRow_90 : mn_dec cX3_fillRow 90 = some (93, [], .getfield 18) := by decide +kernel
theorem eX3_fillRow_93 : mn_dec cX3_fillRow 93 = some (95, [], .iload 4) := by decide +kernel
theorem eX3_fillRow_95 : mn_dec cX3_fillRow 95 = some (96, [], .iaload) := by decide +kernel
theorem eX3_fillRow_96 : mn_dec cX3_fillRow 96 = some (98, [], .iload 5) := by decide +kernel
theorem eX3_fillRow_98 : mn_dec cX3_fillRow 98 = some (99, [], .ineg) := by decide +kernel
theorem eX3_fillRow_99 : mn_dec cX3_fillRow 99 = some (100, [], .i2l) := by decide +kernel
theorem eX3_fillRow_100 : mn_dec cX3_fillRow 100 = some (103, [], .invokevirtual 90) := by decide +kernel
theorem eX3_fillRow_103 : mn_dec cX3_fillRow 103 = some (106, [], .iinc 4 1) := by decide +kernel
theorem eX3_fillRow_106 : mn_dec cX3_fillRow 106 = some (109, [3], .goto (-103)) := by decide +kernel
theorem eX3_fillRow_109 : mn_dec cX3_fillRow 109 = some (110, [], .return_) := by decide +kernel
theorem eX4_runMany_0 : mn_dec cX4_runMany 0 = some (1, [], .iconst 0) := by decide +kernel
theorem eX4_runMany_1 : mn_dec cX4_runMany 1 = some (2, [], .istore 3) := by decide +kernel
theorem eX4_runMany_2 : mn_dec cX4_runMany 2 = some (3, [], .iload 3) := by decide +kernel
theorem eX4_runMany_3 : mn_dec cX4_runMany 3 = some (4, [], .iload 2) := by decide +kernel
theorem eX4_runMany_4 : mn_dec cX4_runMany 4 = some (7, [23], .if_icmp .ge 19) := by decide +kernel
theorem eX4_runMany_7 : mn_dec cX4_runMany 7 = some (8, [], .aload 0) := by decide +kernel
theorem eX4_runMany_8 : mn_dec cX4_runMany 8 = some (9, [], .aload 1) := by decide +kernel
theorem eX4_runMany_9 : mn_dec cX4_runMany 9 = some (12, [], .invokevirtual 18) := by decide +kernel
theorem eX4_runMany_12 : mn_dec cX4_runMany 12 = some (15, [17], .ifCond .ne 5) := by decide +kernel
theorem eX4_runMany_15 : mn_dec cX4_runMany 15 = some (16, [], .iload 3) := by decide +kernel
theorem eX4_runMany_16 : mn_dec cX4_runMany 16 = some (17, [], .ireturn) := by decide +kernel
theorem eX4_runMany_17 : mn_dec cX4_runMany 17 = some (20, [], .iinc 3 1) := by decide +kernel
theorem eX4_runMany_20 : mn_dec cX4_runMany 20 = some (23, [2], .goto (-18)) := by decide +kernel
theorem eX4_runMany_23 : mn_dec cX4_runMany 23 = some (24, [], .iload 2) := by decide +kernel
theorem eX4_runMany_24 : mn_dec cX4_runMany 24 = some (25, [], .ireturn) := by decide +kernel
theorem eX4_runTillStill_0 : mn_dec cX4_runTillStill 0 = some (1, [], .iconst 1) := by decide +kernel
theorem eX4_runTillStill_1 : mn_dec cX4_runTillStill 1 = some (2, [], .istore 2) := by decide +kernel
theorem eX4_runTillStill_2 : mn_dec cX4_runTillStill 2 = some (3, [], .iload 2) := by decide +kernel
theorem eX4_runTillStill_3 : mn_dec cX4_runTillStill 3 = some (6, [], .iconst 300) := by decide +kernel
theorem eX4_runTillStill_6 : mn_dec cX4_runTillStill 6 = some (9, [25], .if_icmp .gt 19) := by decide +kernel
theorem eX4_runTillStill_9 : mn_dec cX4_runTillStill 9 = some (10, [], .aload 0) := by decide +kernel
theorem eX4_runTillStill_10 : mn_dec cX4_runTillStill 10 = some (11, [], .aload 1) := by decide +kernel
theorem eX4_runTillStill_11 : mn_dec cX4_runTillStill 11 = some (14, [], .invokevirtual 18) := by decide +kernel
theorem eX4_runTillStill_14 : mn_dec cX4_runTillStill 14 = some (17, [19], .ifCond .ne 5) := by decide +kernel
theorem eX4_runTillStill_17 : mn_dec cX4_runTillStill 17 = some (18, [], .iload 2) := by decide +kernel
theorem eX4_runTillStill_18 : mn_dec cX4_runTillStill 18 = some (19, [], .ireturn) := by decide +kernel
theorem eX4_runTillStill_19 : mn_dec cX4_runTillStill 19 = some (22, [], .iinc 2 1) := by decide +kernel
theorem eX4_runTillStill_22 : mn_dec cX4_runTillStill 22 = some (25, [2], .goto (-20)) := by decide +kernel
theorem eX4_runTillStill_25 : mn_dec cX4_runTillStill 25 = some (27, [], .iconst (-7)) := by decide +kernel
theorem eX4_runTillStill_27 : mn_dec cX4_runTillStill 27 = some (28, [], .ireturn) := by decide +kernel
theorem eX4_runOne_0 : mn_dec cX4_runOne 0 = some (1, [], .iconst 0) := by decide +kernel
theorem eX4_runOne_1 : mn_dec cX4_runOne 1 = some (2, [], .istore 2) := by decide +kernel
theorem eX4_runOne_2 : mn_dec cX4_runOne 2 = some (3, [], .iload 2) := by decide +kernel
theorem eX4_runOne_3 : mn_dec cX4_runOne 3 = some (4, [], .aload 1) := by decide +kernel
theorem eX4_runOne_4 : mn_dec cX4_runOne 4 = some (7, [], .invokevirtual 22) := by decide +kernel
theorem eX4_runOne_7 : mn_dec cX4_runOne 7 = some (10, [36], .if_icmp .ge 29) := by decide +kernel
theorem eX4_runOne_10 : mn_dec cX4_runOne 10 = some (11, [], .iload 2) := by decide +kernel
theorem eX4_runOne_11 : mn_dec cX4_runOne 11 = some (12, [], .aload 0) := by decide +kernel
theorem eX4_runOne_12 : mn_dec cX4_runOne 12 = some (15, [], .getfield 9) := by decide +kernel
theorem eX4_runOne_15 : mn_dec cX4_runOne 15 = some (16, [], .arraylength) := by decide +kernel
theorem eX4_runOne_16 : mn_dec cX4_runOne 16 = some (19, [36], .if_icmp .ge 20) := by decide +kernel
theorem eX4_runOne_19 : mn_dec cX4_runOne 19 = some (20, [], .aload 0) := by decide +kernel
theorem eX4_runOne_20 : mn_dec cX4_runOne 20 = some (23, [], .getfield 9) := by decide +kernel
theorem eX4_runOne_23 : mn_dec cX4_runOne 23 = some (24, [], .iload 2) := by decide +kernel
theorem eX4_runOne_24 : mn_dec cX4_runOne 24 = some (25, [], .aload 1) := by decide +kernel
theorem eX4_runOne_25 : mn_dec cX4_runOne 25 = some (26, [], .iload 2) := by decide +kernel
theorem eX4_runOne_26 : mn_dec cX4_runOne 26 = some (29, [], .invokevirtual 28) := by decide +kernel
theorem eX4_runOne_29 : mn_dec cX4_runOne 29 = some (30, [], .iastore) := by decide +kernel
theorem eX4_runOne_30 : mn_dec cX4_runOne 30 = some (33, [], .iinc 2 1) := by decide +kernel
theorem eX4_runOne_33 : mn_dec cX4_runOne 33 = some (36, [2], .goto (-31)) := by decide +kernel
theorem eX4_runOne_36 : mn_dec cX4_runOne 36 = some (37, [], .iconst 0) := by decide +kernel
theorem eX4_runOne_37 : mn_dec cX4_runOne 37 = some (38, [], .istore 2) := by decide +kernel
theorem eX4_runOne_38 : mn_dec cX4_runOne 38 = some (39, [], .iconst 0) := by decide +kernel
theorem eX4_runOne_39 : mn_dec cX4_runOne 39 = some (40, [], .istore 3) := by decide +kernel
theorem eX4_runOne_40 : mn_dec cX4_runOne 40 = some (41, [], .iload 3) := by decide +kernel
theorem eX4_runOne_41 : mn_dec cX4_runOne 41 = some (42, [], .aload 1) := by decide +kernel
theorem eX4_runOne_42 : mn_dec cX4_runOne 42 = some (45, [], .invokevirtual 22) := by decide +kernel
theorem eX4_runOne_45 : mn_dec cX4_runOne 45 = some (48, [98], .if_icmp .ge 53) := by decide +kernel
theorem eX4_runOne_48 : mn_dec cX4_runOne 48 = some (49, [], .iload 3) := by decide +kernel
theorem eX4_runOne_49 : mn_dec cX4_runOne 49 = some (50, [], .aload 0) := by decide +kernel
theorem eX4_runOne_50 : mn_dec cX4_runOne 50 = some (53, [], .getfield 9) := by decide +kernel
theorem eX4_runOne_53 : mn_dec cX4_runOne 53 = some (54, [], .arraylength) := by decide +kernel
theorem eX4_runOne_54 : mn_dec cX4_runOne 54 = some (57, [98], .if_icmp .ge 44) := by decide +kernel
theorem eX4_runOne_57 : mn_dec cX4_runOne 57 = some (58, [], .iload 2) := by decide +kernel
theorem eX4_runOne_58 : mn_dec cX4_runOne 58 = some (61, [75], .ifCond .ne 17) := by decide +kernel
theorem eX4_runOne_61 : mn_dec cX4_runOne 61 = some (62, [], .aload 0) := by decide +kernel
theorem eX4_runOne_62 : mn_dec cX4_runOne 62 = some (65, [], .getfield 9) := by decide +kernel
theorem eX4_runOne_65 : mn_dec cX4_runOne 65 = some (66, [], .iload 3) := by decide +kernel
theorem eX4_runOne_66 : mn_dec cX4_runOne 66 = some (67, [], .iaload) := by decide +kernel
theorem eX4_runOne_67 : mn_dec cX4_runOne 67 = some (68, [], .aload 1) := by decide +kernel
theorem eX4_runOne_68 : mn_dec cX4_runOne 68 = some (69, [], .iload 3) := by decide +kernel
theorem eX4_runOne_69 : mn_dec cX4_runOne 69 = some (72, [], .invokevirtual 32) := by decide +kernel
theorem eX4_runOne_72 : mn_dec cX4_runOne 72 = some (75, [79], .if_icmp .eq 7) := by decide +kernel
theorem eX4_runOne_75 : mn_dec cX4_runOne 75 = some (76, [], .iconst 1) := by decide +kernel
theorem eX4_runOne_76 : mn_dec cX4_runOne 76 = some (79, [80], .goto 4) := by decide +kernel
theorem eX4_runOne_79 : mn_dec cX4_runOne 79 = some (80, [], .iconst 0) := by decide +kernel
theorem eX4_runOne_80 : mn_dec cX4_runOne 80 = some (81, [], .istore 2) := by decide +kernel
theorem eX4_runOne_81 : mn_dec cX4_runOne 81 = some (82, [], .aload 1) := by decide +kernel
theorem eX4_runOne_82 : mn_dec cX4_runOne 82 = some (83, [], .iload 3) := by decide +kernel
theorem eX4_runOne_83 : mn_dec cX4_runOne 83 = some (84, [], .aload 0) := by decide +kernel
theorem eX4_runOne_84 : mn_dec cX4_runOne 84 = some (87, [], .getfield 9) := by decide +kernel
theorem eX4_runOne_87 : mn_dec cX4_runOne 87 = some (88, [], .iload 3) := by decide +kernel
theorem eX4_runOne_88 : mn_dec cX4_runOne 88 = some (89, [], .iaload) := by decide +kernel
theorem eX4_runOne_89 : mn_dec cX4_runOne 89 = some (92, [], .invokevirtual 35) := by decide +kernel
theorem eX4_runOne_92 : mn_dec cX4_runOne 92 = some (95, [], .iinc 3 1) := by decide +kernel
theorem eX4_runOne_95 : mn_dec cX4_runOne 95 = some (98, [40], .goto (-55)) := by decide +kernel
theorem eX4_runOne_98 : mn_dec cX4_runOne 98 = some (99, [], .iload 2) := by decide +kernel
theorem eX4_runOne_99 : mn_dec cX4_runOne 99 = some (100, [], .ireturn) := by decide +kernel
theorem eX4_remember_0 : mn_dec cX4_remember 0 = some (1, [], .iconst 0) := by decide +kernel
theorem eX4_remember_1 : mn_dec cX4_remember 1 = some (2, [], .istore 2) := by decide +kernel
theorem eX4_remember_2 : mn_dec cX4_remember 2 = some (3, [], .iload 2) := by decide +kernel
theorem eX4_remember_3 : mn_dec cX4_remember 3 = some (4, [], .aload 1) := by decide +kernel
theorem eX4_remember_4 : mn_dec cX4_remember 4 = some (7, [], .invokevirtual 22) := by decide +kernel
theorem eX4_remember_7 : mn_dec cX4_remember 7 = some (10, [36], .if_icmp .ge 29) := by decide +kernel
theorem eX4_remember_10 : mn_dec cX4_remember 10 = some (11, [], .iload 2) := by decide +kernel
theorem eX4_remember_11 : mn_dec cX4_remember 11 = some (12, [], .aload 0) := by decide +kernel
theorem eX4_remember_12 : mn_dec cX4_remember 12 = some (15, [], .getfield 15) := by decide +kernel
theorem eX4_remember_15 : mn_dec cX4_remember 15 = some (16, [], .arraylength) := by decide +kernel
theorem eX4_remember_16 : mn_dec cX4_remember 16 = some (19, [36], .if_icmp .ge 20) := by decide +kernel
theorem eX4_remember_19 : mn_dec cX4_remember 19 = some (20, [], .aload 0) := by decide +kernel
theorem eX4_remember_20 : mn_dec cX4_remember 20 = some (23, [], .getfield 15) := by decide +kernel
theorem eX4_remember_23 : mn_dec cX4_remember 23 = some (24, [], .iload 2) := by decide +kernel
theorem eX4_remember_24 : mn_dec cX4_remember 24 = some (25, [], .aload 1) := by decide +kernel
theorem eX4_remember_25 : mn_dec cX4_remember 25 = some (26, [], .iload 2) := by decide +kernel
theorem eX4_remember_26 : mn_dec cX4_remember 26 = some (29, [], .invokevirtual 32) := by decide +kernel
theorem eX4_remember_29 : mn_dec cX4_remember 29 = some (30, [], .iastore) := by decide +kernel
theorem eX4_remember_30 : mn_dec cX4_remember 30 = some (33, [], .iinc 2 1) := by decide +kernel
theorem eX4_remember_33 : mn_dec cX4_remember 33 = some (36, [2], .goto (-31)) := by decide +kernel
theorem eX4_remember_36 : mn_dec cX4_remember 36 = some (37, [], .return_) := by decide +kernel
theorem eX4_putBack_0 : mn_dec cX4_putBack 0 = some (1, [], .iconst 0) := by decide +kernel
theorem eX4_putBack_1 : mn_dec cX4_putBack 1 = some (2, [], .istore 2) := by decide +kernel
theorem eX4_putBack_2 : mn_dec cX4_putBack 2 = some (3, [], .iload 2) := by decide +kernel
theorem eX4_putBack_3 : mn_dec cX4_putBack 3 = some (4, [], .aload 1) := by decide +kernel
theorem eX4_putBack_4 : mn_dec cX4_putBack 4 = some (7, [], .invokevirtual 22) := by decide +kernel
theorem eX4_putBack_7 : mn_dec cX4_putBack 7 = some (10, [36], .if_icmp .ge 29) := by decide +kernel
theorem eX4_putBack_10 : mn_dec cX4_putBack 10 = some (11, [], .iload 2) := by decide +kernel
theorem eX4_putBack_11 : mn_dec cX4_putBack 11 = some (12, [], .aload 0) := by decide +kernel
theorem eX4_putBack_12 : mn_dec cX4_putBack 12 = some (15, [], .getfield 15) := by decide +kernel
theorem eX4_putBack_15 : mn_dec cX4_putBack 15 = some (16, [], .arraylength) := by decide +kernel
theorem eX4_putBack_16 : mn_dec cX4_putBack 16 = some (19, [36], .if_icmp .ge 20) := by decide +kernel
theorem eX4_putBack_19 : mn_dec cX4_putBack 19 = some (20, [], .aload 1) := by decide +kernel
theorem eX4_putBack_20 : mn_dec cX4_putBack 20 = some (21, [], .iload 2) := by decide +kernel
theorem eX4_putBack_21 : mn_dec cX4_putBack 21 = some (22, [], .aload 0) := by decide +kernel
theorem eX4_putBack_22 : mn_dec cX4_putBack 22 = some (25, [], .getfield 15) := by decide +kernel
theorem eX4_putBack_25 : mn_dec cX4_putBack 25 = some (26, [], .iload 2) := by decide +kernel
theorem eX4_putBack_26 : mn_dec cX4_putBack 26 = some (27, [], .iaload) := by decide +kernel
theorem eX4_putBack_27 : mn_dec cX4_putBack 27 = some (30, [], .invokevirtual 35) := by decide +kernel
theorem eX4_putBack_30 : mn_dec cX4_putBack 30 = some (33, [], .iinc 2 1) := by decide +kernel
theorem eX4_putBack_33 : mn_dec cX4_putBack 33 = some (36, [2], .goto (-31)) := by decide +kernel
theorem eX4_putBack_36 : mn_dec cX4_putBack 36 = some (37, [], .return_) := by decide +kernel
theorem eX5_areThere_0 : mn_dec cX5_areThere 0 = some (1, [], .aload 1) := by decide +kernel
theorem eX5_areThere_1 : mn_dec cX5_areThere 1 = some (4, [], .invokevirtual 26) := by decide +kernel
theorem eX5_areThere_4 : mn_dec cX5_areThere 4 = some (5, [], .iconst 2) := by decide +kernel
theorem eX5_areThere_5 : mn_dec cX5_areThere 5 = some (7, [], .iconst 6) := by decide +kernel
theorem eX5_areThere_7 : mn_dec cX5_areThere 7 = some (10, [], .invokestatic 32) := by decide +kernel
theorem eX5_areThere_10 : mn_dec cX5_areThere 10 = some (13, [15], .ifCond .ne 5) := by decide +kernel
theorem eX5_areThere_13 : mn_dec cX5_areThere 13 = some (14, [], .iconst 0) := by decide +kernel
theorem eX5_areThere_14 : mn_dec cX5_areThere 14 = some (15, [], .ireturn) := by decide +kernel
theorem eX5_areThere_15 : mn_dec cX5_areThere 15 = some (16, [], .aload 2) := by decide +kernel
theorem eX5_areThere_16 : mn_dec cX5_areThere 16 = some (17, [], .aload 1) := by decide +kernel
theorem eX5_areThere_17 : mn_dec cX5_areThere 17 = some (20, [], .invokevirtual 36) := by decide +kernel
theorem eX5_areThere_20 : mn_dec cX5_areThere 20 = some (21, [], .iconst 0) := by decide +kernel
theorem eX5_areThere_21 : mn_dec cX5_areThere 21 = some (22, [], .istore 3) := by decide +kernel
theorem eX5_areThere_22 : mn_dec cX5_areThere 22 = some (23, [], .iload 3) := by decide +kernel
theorem eX5_areThere_23 : mn_dec cX5_areThere 23 = some (24, [], .aload 1) := by decide +kernel
theorem eX5_areThere_24 : mn_dec cX5_areThere 24 = some (27, [], .invokevirtual 26) := by decide +kernel
theorem eX5_areThere_27 : mn_dec cX5_areThere 27 = some (30, [66], .if_icmp .ge 39) := by decide +kernel
theorem eX5_areThere_30 : mn_dec cX5_areThere 30 = some (31, [], .iconst 0) := by decide +kernel
theorem eX5_areThere_31 : mn_dec cX5_areThere 31 = some (33, [], .istore 4) := by decide +kernel
theorem eX5_areThere_33 : mn_dec cX5_areThere 33 = some (35, [], .iload 4) := by decide +kernel
theorem eX5_areThere_35 : mn_dec cX5_areThere 35 = some (36, [], .aload 1) := by decide +kernel
theorem eX5_areThere_36 : mn_dec cX5_areThere 36 = some (39, [], .invokevirtual 26) := by decide +kernel
theorem eX5_areThere_39 : mn_dec cX5_areThere 39 = some (42, [60], .if_icmp .ge 21) := by decide +kernel
theorem eX5_areThere_42 : mn_dec cX5_areThere 42 = some (43, [], .aload 2) := by decide +kernel
theorem eX5_areThere_43 : mn_dec cX5_areThere 43 = some (44, [], .iload 3) := by decide +kernel
theorem eX5_areThere_44 : mn_dec cX5_areThere 44 = some (46, [], .iload 4) := by decide +kernel
theorem eX5_areThere_46 : mn_dec cX5_areThere 46 = some (49, [], .invokevirtual 42) := by decide +kernel
theorem eX5_areThere_49 : mn_dec cX5_areThere 49 = some (52, [54], .ifCond .ne 5) := by decide +kernel
theorem eX5_areThere_52 : mn_dec cX5_areThere 52 = some (53, [], .iconst 0) := by decide +kernel
theorem eX5_areThere_53 : mn_dec cX5_areThere 53 = some (54, [], .ireturn) := by decide +kernel
theorem eX5_areThere_54 : mn_dec cX5_areThere 54 = some (57, [], .iinc 4 1) := by decide +kernel
theorem eX5_areThere_57 : mn_dec cX5_areThere 57 = some (60, [33], .goto (-24)) := by decide +kernel
theorem eX5_areThere_60 : mn_dec cX5_areThere 60 = some (63, [], .iinc 3 1) := by decide +kernel
theorem eX5_areThere_63 : mn_dec cX5_areThere 63 = some (66, [22], .goto (-41)) := by decide +kernel
theorem eX5_areThere_66 : mn_dec cX5_areThere 66 = some (67, [], .iconst 1) := by decide +kernel
theorem eX5_areThere_67 : mn_dec cX5_areThere 67 = some (68, [], .ireturn) := by decide +kernel
theorem eX5_work_0 : mn_dec cX5_work 0 = some (1, [], .aload 0) := by decide +kernel
theorem eX5_work_1 : mn_dec cX5_work 1 = some (2, [], .aload 1) := by decide +kernel
theorem eX5_work_2 : mn_dec cX5_work 2 = some (5, [], .invokevirtual 46) := by decide +kernel
theorem eX5_work_5 : mn_dec cX5_work 5 = some (6, [], .aload 0) := by decide +kernel
theorem eX5_work_6 : mn_dec cX5_work 6 = some (7, [], .lconst 0) := by decide +kernel
theorem eX5_work_7 : mn_dec cX5_work 7 = some (10, [], .putfield 22) := by decide +kernel
theorem eX5_work_10 : mn_dec cX5_work 10 = some (11, [], .iconst 0) := by decide +kernel
theorem eX5_work_11 : mn_dec cX5_work 11 = some (12, [], .istore 2) := by decide +kernel
theorem eX5_work_12 : mn_dec cX5_work 12 = some (13, [], .iload 2) := by decide +kernel
theorem eX5_work_13 : mn_dec cX5_work 13 = some (14, [], .aload 1) := by decide +kernel
theorem eX5_work_14 : mn_dec cX5_work 14 = some (17, [], .invokevirtual 26) := by decide +kernel
theorem eX5_work_17 : mn_dec cX5_work 17 = some (20, [70], .if_icmp .ge 53) := by decide +kernel
theorem eX5_work_20 : mn_dec cX5_work 20 = some (21, [], .iload 2) := by decide +kernel
theorem eX5_work_21 : mn_dec cX5_work 21 = some (22, [], .aload 0) := by decide +kernel
theorem eX5_work_22 : mn_dec cX5_work 22 = some (25, [], .getfield 18) := by decide +kernel
theorem eX5_work_25 : mn_dec cX5_work 25 = some (26, [], .arraylength) := by decide +kernel
theorem eX5_work_26 : mn_dec cX5_work 26 = some (29, [70], .if_icmp .ge 44) := by decide +kernel
theorem eX5_work_29 : mn_dec cX5_work 29 = some (30, [], .aload 0) := by decide +kernel
theorem eX5_work_30 : mn_dec cX5_work 30 = some (33, [], .getfield 18) := by decide +kernel
theorem eX5_work_33 : mn_dec cX5_work 33 = some (34, [], .iload 2) := by decide +kernel
theorem eX5_work_34 : mn_dec cX5_work 34 = some (35, [], .aload 0) := by decide +kernel
theorem eX5_work_35 : mn_dec cX5_work 35 = some (38, [], .getfield 12) := by decide +kernel
theorem eX5_work_38 : mn_dec cX5_work 38 = some (39, [], .iload 2) := by decide +kernel
theorem eX5_work_39 : mn_dec cX5_work 39 = some (42, [], .invokevirtual 49) := by decide +kernel
theorem eX5_work_42 : mn_dec cX5_work 42 = some (43, [], .aload 1) := by decide +kernel
theorem eX5_work_43 : mn_dec cX5_work 43 = some (44, [], .iload 2) := by decide +kernel
theorem eX5_work_44 : mn_dec cX5_work 44 = some (47, [], .invokestatic 53) := by decide +kernel
theorem eX5_work_47 : mn_dec cX5_work 47 = some (48, [], .lmul) := by decide +kernel
theorem eX5_work_48 : mn_dec cX5_work 48 = some (49, [], .lastore) := by decide +kernel
theorem eX5_work_49 : mn_dec cX5_work 49 = some (50, [], .aload 0) := by decide +kernel
theorem eX5_work_50 : mn_dec cX5_work 50 = some (51, [], .dup) := by decide +kernel
theorem eX5_work_51 : mn_dec cX5_work 51 = some (54, [], .getfield 22) := by decide +kernel
theorem eX5_work_54 : mn_dec cX5_work 54 = some (55, [], .aload 0) := by decide +kernel
theorem eX5_work_55 : mn_dec cX5_work 55 = some (58, [], .getfield 18) := by decide +kernel
theorem eX5_work_58 : mn_dec cX5_work 58 = some (59, [], .iload 2) := by decide +kernel
theorem eX5_work_59 : mn_dec cX5_work 59 = some (60, [], .laload) := by decide +kernel
theorem eX5_work_60 : mn_dec cX5_work 60 = some (61, [], .ladd) := by decide +kernel
theorem eX5_work_61 : mn_dec cX5_work 61 = some (64, [], .putfield 22) := by decide +kernel
theorem eX5_work_64 : mn_dec cX5_work 64 = some (67, [], .iinc 2 1) := by decide +kernel
theorem eX5_work_67 : mn_dec cX5_work 67 = some (70, [12], .goto (-55)) := by decide +kernel
theorem eX5_work_70 : mn_dec cX5_work 70 = some (71, [], .return_) := by decide +kernel
theorem eX5_partFor_0 : mn_dec cX5_partFor 0 = some (1, [], .iload 1) := by decide +kernel
theorem eX5_partFor_1 : mn_dec cX5_partFor 1 = some (4, [22], .ifCond .lt 21) := by decide +kernel
theorem eX5_partFor_4 : mn_dec cX5_partFor 4 = some (5, [], .iload 1) := by decide +kernel
theorem eX5_partFor_5 : mn_dec cX5_partFor 5 = some (6, [], .aload 0) := by decide +kernel
theorem eX5_partFor_6 : mn_dec cX5_partFor 6 = some (9, [], .getfield 18) := by decide +kernel
theorem eX5_partFor_9 : mn_dec cX5_partFor 9 = some (10, [], .arraylength) := by decide +kernel
theorem eX5_partFor_10 : mn_dec cX5_partFor 10 = some (13, [22], .if_icmp .ge 12) := by decide +kernel
theorem eX5_partFor_13 : mn_dec cX5_partFor 13 = some (14, [], .aload 0) := by decide +kernel
theorem eX5_partFor_14 : mn_dec cX5_partFor 14 = some (17, [], .getfield 18) := by decide +kernel
theorem eX5_partFor_17 : mn_dec cX5_partFor 17 = some (18, [], .iload 1) := by decide +kernel
theorem eX5_partFor_18 : mn_dec cX5_partFor 18 = some (19, [], .laload) := by decide +kernel
theorem eX5_partFor_19 : mn_dec cX5_partFor 19 = some (22, [23], .goto 4) := by decide +kernel
theorem eX5_partFor_22 : mn_dec cX5_partFor 22 = some (23, [], .lconst 0) := by decide +kernel
theorem eX5_partFor_23 : mn_dec cX5_partFor 23 = some (24, [], .lreturn) := by decide +kernel
theorem eX5_whole_0 : mn_dec cX5_whole 0 = some (1, [], .aload 0) := by decide +kernel
theorem eX5_whole_1 : mn_dec cX5_whole 1 = some (4, [], .getfield 22) := by decide +kernel
theorem eX5_whole_4 : mn_dec cX5_whole 4 = some (5, [], .lreturn) := by decide +kernel
theorem eX5_sumWithThoughts_0 : mn_dec cX5_sumWithThoughts 0 = some (1, [], .lconst 0) := by decide +kernel
theorem eX5_sumWithThoughts_1 : mn_dec cX5_sumWithThoughts 1 = some (2, [], .lstore 2) := by decide +kernel
theorem eX5_sumWithThoughts_2 : mn_dec cX5_sumWithThoughts 2 = some (3, [], .iconst 0) := by decide +kernel
theorem eX5_sumWithThoughts_3 : mn_dec cX5_sumWithThoughts 3 = some (5, [], .istore 4) := by decide +kernel
theorem eX5_sumWithThoughts_5 : mn_dec cX5_sumWithThoughts 5 = some (7, [], .iload 4) := by decide +kernel
theorem eX5_sumWithThoughts_7 : mn_dec cX5_sumWithThoughts 7 = some (8, [], .aload 1) := by decide +kernel
theorem eX5_sumWithThoughts_8 : mn_dec cX5_sumWithThoughts 8 = some (11, [], .invokevirtual 26) := by decide +kernel
theorem eX5_sumWithThoughts_11 : mn_dec cX5_sumWithThoughts 11 = some (14, [37], .if_icmp .ge 26) := by decide +kernel
theorem eX5_sumWithThoughts_14 : mn_dec cX5_sumWithThoughts 14 = some (15, [], .lload 2) := by decide +kernel
theorem eX5_sumWithThoughts_15 : mn_dec cX5_sumWithThoughts 15 = some (16, [], .aload 0) := by decide +kernel
theorem eX5_sumWithThoughts_16 : mn_dec cX5_sumWithThoughts 16 = some (18, [], .iload 4) := by decide +kernel
theorem eX5_sumWithThoughts_18 : mn_dec cX5_sumWithThoughts 18 = some (21, [], .invokevirtual 57) := by decide +kernel
theorem eX5_sumWithThoughts_21 : mn_dec cX5_sumWithThoughts 21 = some (22, [], .aload 1) := by decide +kernel
theorem eX5_sumWithThoughts_22 : mn_dec cX5_sumWithThoughts 22 = some (24, [], .iload 4) := by decide +kernel
theorem eX5_sumWithThoughts_24 : mn_dec cX5_sumWithThoughts 24 = some (27, [], .invokevirtual 60) := by decide +kernel
theorem eX5_sumWithThoughts_27 : mn_dec cX5_sumWithThoughts 27 = some (28, [], .i2l) := by decide +kernel
theorem eX5_sumWithThoughts_28 : mn_dec cX5_sumWithThoughts 28 = some (29, [], .lmul) := by decide +kernel
theorem eX5_sumWithThoughts_29 : mn_dec cX5_sumWithThoughts 29 = some (30, [], .ladd) := by decide +kernel
theorem eX5_sumWithThoughts_30 : mn_dec cX5_sumWithThoughts 30 = some (31, [], .lstore 2) := by decide +kernel
theorem eX5_sumWithThoughts_31 : mn_dec cX5_sumWithThoughts 31 = some (34, [], .iinc 4 1) := by decide +kernel
theorem eX5_sumWithThoughts_34 : mn_dec cX5_sumWithThoughts 34 = some (37, [5], .goto (-29)) := by decide +kernel
theorem eX5_sumWithThoughts_37 : mn_dec cX5_sumWithThoughts 37 = some (38, [], .lload 2) := by decide +kernel
theorem eX5_sumWithThoughts_38 : mn_dec cX5_sumWithThoughts 38 = some (39, [], .lreturn) := by decide +kernel
theorem eX5_fillSquare_0 : mn_dec cX5_fillSquare 0 = some (1, [], .aload 0) := by decide +kernel
theorem eX5_fillSquare_1 : mn_dec cX5_fillSquare 1 = some (4, [], .getfield 12) := by decide +kernel
theorem eX5_fillSquare_4 : mn_dec cX5_fillSquare 4 = some (5, [], .aload 1) := by decide +kernel
theorem eX5_fillSquare_5 : mn_dec cX5_fillSquare 5 = some (8, [], .invokevirtual 26) := by decide +kernel
theorem eX5_fillSquare_8 : mn_dec cX5_fillSquare 8 = some (11, [], .invokevirtual 64) := by decide +kernel
theorem eX5_fillSquare_11 : mn_dec cX5_fillSquare 11 = some (12, [], .iconst 0) := by decide +kernel
theorem eX5_fillSquare_12 : mn_dec cX5_fillSquare 12 = some (13, [], .istore 2) := by decide +kernel
theorem eX5_fillSquare_13 : mn_dec cX5_fillSquare 13 = some (14, [], .iload 2) := by decide +kernel
theorem eX5_fillSquare_14 : mn_dec cX5_fillSquare 14 = some (15, [], .aload 1) := by decide +kernel
theorem eX5_fillSquare_15 : mn_dec cX5_fillSquare 15 = some (18, [], .invokevirtual 26) := by decide +kernel
theorem eX5_fillSquare_18 : mn_dec cX5_fillSquare 18 = some (21, [76], .if_icmp .ge 58) := by decide +kernel
theorem eX5_fillSquare_21 : mn_dec cX5_fillSquare 21 = some (22, [], .iconst 0) := by decide +kernel
theorem eX5_fillSquare_22 : mn_dec cX5_fillSquare 22 = some (23, [], .istore 3) := by decide +kernel
theorem eX5_fillSquare_23 : mn_dec cX5_fillSquare 23 = some (24, [], .iload 3) := by decide +kernel
theorem eX5_fillSquare_24 : mn_dec cX5_fillSquare 24 = some (25, [], .aload 1) := by decide +kernel
theorem eX5_fillSquare_25 : mn_dec cX5_fillSquare 25 = some (28, [], .invokevirtual 26) := by decide +kernel
theorem eX5_fillSquare_28 : mn_dec cX5_fillSquare 28 = some (31, [70], .if_icmp .ge 42) := by decide +kernel
theorem eX5_fillSquare_31 : mn_dec cX5_fillSquare 31 = some (32, [], .aload 0) := by decide +kernel
theorem eX5_fillSquare_32 : mn_dec cX5_fillSquare 32 = some (35, [], .getfield 12) := by decide +kernel
theorem eX5_fillSquare_35 : mn_dec cX5_fillSquare 35 = some (36, [], .iload 2) := by decide +kernel
theorem eX5_fillSquare_36 : mn_dec cX5_fillSquare 36 = some (37, [], .iload 2) := by decide +kernel
theorem eX5_fillSquare_37 : mn_dec cX5_fillSquare 37 = some (38, [], .aload 1) := by decide +kernel
theorem eX5_fillSquare_38 : mn_dec cX5_fillSquare 38 = some (39, [], .iload 2) := by decide +kernel
theorem eX5_fillSquare_39 : mn_dec cX5_fillSquare 39 = some (40, [], .iload 3) := by decide +kernel
theorem eX5_fillSquare_40 : mn_dec cX5_fillSquare 40 = some (43, [], .invokevirtual 68) := by decide +kernel
theorem eX5_fillSquare_43 : mn_dec cX5_fillSquare 43 = some (44, [], .i2l) := by decide +kernel
theorem eX5_fillSquare_44 : mn_dec cX5_fillSquare 44 = some (47, [], .invokevirtual 72) := by decide +kernel
theorem eX5_fillSquare_47 : mn_dec cX5_fillSquare 47 = some (48, [], .aload 0) := by decide +kernel
theorem eX5_fillSquare_48 : mn_dec cX5_fillSquare 48 = some (51, [], .getfield 12) := by decide +kernel
theorem eX5_fillSquare_51 : mn_dec cX5_fillSquare 51 = some (52, [], .iload 2) := by decide +kernel
theorem eX5_fillSquare_52 : mn_dec cX5_fillSquare 52 = some (53, [], .iload 3) := by decide +kernel
theorem eX5_fillSquare_53 : mn_dec cX5_fillSquare 53 = some (54, [], .aload 1) := by decide +kernel
theorem eX5_fillSquare_54 : mn_dec cX5_fillSquare 54 = some (55, [], .iload 2) := by decide +kernel
theorem eX5_fillSquare_55 : mn_dec cX5_fillSquare 55 = some (56, [], .iload 3) := by decide +kernel
theorem eX5_fillSquare_56 : mn_dec cX5_fillSquare 56 = some (59, [], .invokevirtual 68) := by decide +kernel
theorem eX5_fillSquare_59 : mn_dec cX5_fillSquare 59 = some (60, [], .ineg) := by decide +kernel
theorem eX5_fillSquare_60 : mn_dec cX5_fillSquare 60 = some (61, [], .i2l) := by decide +kernel
theorem eX5_fillSquare_61 : mn_dec cX5_fillSquare 61 = some (64, [], .invokevirtual 72) := by decide +kernel
theorem eX5_fillSquare_64 : mn_dec cX5_fillSquare 64 = some (67, [], .iinc 3 1) := by decide +kernel
theorem eX5_fillSquare_67 : mn_dec cX5_fillSquare 67 = some (70, [23], .goto (-44)) := by decide +kernel
theorem eX5_fillSquare_70 : mn_dec cX5_fillSquare 70 = some (73, [], .iinc 2 1) := by decide +kernel
theorem eX5_fillSquare_73 : mn_dec cX5_fillSquare 73 = some (76, [13], .goto (-60)) := by decide +kernel
theorem eX5_fillSquare_76 : mn_dec cX5_fillSquare 76 = some (77, [], .return_) := by decide +kernel
theorem eX5_weightsTogether_0 : mn_dec cX5_weightsTogether 0 = some (1, [], .lconst 0) := by decide +kernel
theorem eX5_weightsTogether_1 : mn_dec cX5_weightsTogether 1 = some (2, [], .lstore 2) := by decide +kernel
theorem eX5_weightsTogether_2 : mn_dec cX5_weightsTogether 2 = some (3, [], .iconst 0) := by decide +kernel
theorem eX5_weightsTogether_3 : mn_dec cX5_weightsTogether 3 = some (5, [], .istore 4) := by decide +kernel
theorem eX5_weightsTogether_5 : mn_dec cX5_weightsTogether 5 = some (7, [], .iload 4) := by decide +kernel
theorem eX5_weightsTogether_7 : mn_dec cX5_weightsTogether 7 = some (8, [], .aload 0) := by decide +kernel
theorem eX5_weightsTogether_8 : mn_dec cX5_weightsTogether 8 = some (11, [], .invokevirtual 26) := by decide +kernel
theorem eX5_weightsTogether_11 : mn_dec cX5_weightsTogether 11 = some (14, [31], .if_icmp .ge 20) := by decide +kernel
theorem eX5_weightsTogether_14 : mn_dec cX5_weightsTogether 14 = some (15, [], .lload 2) := by decide +kernel
theorem eX5_weightsTogether_15 : mn_dec cX5_weightsTogether 15 = some (16, [], .aload 0) := by decide +kernel
theorem eX5_weightsTogether_16 : mn_dec cX5_weightsTogether 16 = some (17, [], .iload 1) := by decide +kernel
theorem eX5_weightsTogether_17 : mn_dec cX5_weightsTogether 17 = some (19, [], .iload 4) := by decide +kernel
theorem eX5_weightsTogether_19 : mn_dec cX5_weightsTogether 19 = some (22, [], .invokevirtual 68) := by decide +kernel
theorem eX5_weightsTogether_22 : mn_dec cX5_weightsTogether 22 = some (23, [], .i2l) := by decide +kernel
theorem eX5_weightsTogether_23 : mn_dec cX5_weightsTogether 23 = some (24, [], .ladd) := by decide +kernel
theorem eX5_weightsTogether_24 : mn_dec cX5_weightsTogether 24 = some (25, [], .lstore 2) := by decide +kernel
theorem eX5_weightsTogether_25 : mn_dec cX5_weightsTogether 25 = some (28, [], .iinc 4 1) := by decide +kernel
theorem eX5_weightsTogether_28 : mn_dec cX5_weightsTogether 28 = some (31, [5], .goto (-23)) := by decide +kernel
theorem eX5_weightsTogether_31 : mn_dec cX5_weightsTogether 31 = some (32, [], .lload 2) := by decide +kernel
theorem eX5_weightsTogether_32 : mn_dec cX5_weightsTogether 32 = some (33, [], .lreturn) := by decide +kernel
theorem eJ6_bitCount_0f7a4_0 : mn_dec cJ6_bitCount_0f7a4 0 = some (1, [], .iload 0) := by decide +kernel
theorem eJ6_bitCount_0f7a4_1 : mn_dec cJ6_bitCount_0f7a4 1 = some (2, [], .iload 0) := by decide +kernel
theorem eJ6_bitCount_0f7a4_2 : mn_dec cJ6_bitCount_0f7a4 2 = some (3, [], .iconst 1) := by decide +kernel
theorem eJ6_bitCount_0f7a4_3 : mn_dec cJ6_bitCount_0f7a4 3 = some (4, [], .iushr) := by decide +kernel
theorem eJ6_bitCount_0f7a4_4 : mn_dec cJ6_bitCount_0f7a4 4 = some (7, [], .ldc_w 265) := by decide +kernel
theorem eJ6_bitCount_0f7a4_7 : mn_dec cJ6_bitCount_0f7a4 7 = some (8, [], .iand) := by decide +kernel
theorem eJ6_bitCount_0f7a4_8 : mn_dec cJ6_bitCount_0f7a4 8 = some (9, [], .isub) := by decide +kernel
theorem eJ6_bitCount_0f7a4_9 : mn_dec cJ6_bitCount_0f7a4 9 = some (10, [], .istore 0) := by decide +kernel
theorem eJ6_bitCount_0f7a4_10 : mn_dec cJ6_bitCount_0f7a4 10 = some (11, [], .iload 0) := by decide +kernel
theorem eJ6_bitCount_0f7a4_11 : mn_dec cJ6_bitCount_0f7a4 11 = some (14, [], .ldc_w 266) := by decide +kernel
theorem eJ6_bitCount_0f7a4_14 : mn_dec cJ6_bitCount_0f7a4 14 = some (15, [], .iand) := by decide +kernel
theorem eJ6_bitCount_0f7a4_15 : mn_dec cJ6_bitCount_0f7a4 15 = some (16, [], .iload 0) := by decide +kernel
theorem eJ6_bitCount_0f7a4_16 : mn_dec cJ6_bitCount_0f7a4 16 = some (17, [], .iconst 2) := by decide +kernel
theorem eJ6_bitCount_0f7a4_17 : mn_dec cJ6_bitCount_0f7a4 17 = some (18, [], .iushr) := by decide +kernel
theorem eJ6_bitCount_0f7a4_18 : mn_dec cJ6_bitCount_0f7a4 18 = some (21, [], .ldc_w 266) := by decide +kernel
theorem eJ6_bitCount_0f7a4_21 : mn_dec cJ6_bitCount_0f7a4 21 = some (22, [], .iand) := by decide +kernel
theorem eJ6_bitCount_0f7a4_22 : mn_dec cJ6_bitCount_0f7a4 22 = some (23, [], .iadd) := by decide +kernel
theorem eJ6_bitCount_0f7a4_23 : mn_dec cJ6_bitCount_0f7a4 23 = some (24, [], .istore 0) := by decide +kernel
theorem eJ6_bitCount_0f7a4_24 : mn_dec cJ6_bitCount_0f7a4 24 = some (25, [], .iload 0) := by decide +kernel
theorem eJ6_bitCount_0f7a4_25 : mn_dec cJ6_bitCount_0f7a4 25 = some (26, [], .iload 0) := by decide +kernel
theorem eJ6_bitCount_0f7a4_26 : mn_dec cJ6_bitCount_0f7a4 26 = some (27, [], .iconst 4) := by decide +kernel
theorem eJ6_bitCount_0f7a4_27 : mn_dec cJ6_bitCount_0f7a4 27 = some (28, [], .iushr) := by decide +kernel
theorem eJ6_bitCount_0f7a4_28 : mn_dec cJ6_bitCount_0f7a4 28 = some (29, [], .iadd) := by decide +kernel
theorem eJ6_bitCount_0f7a4_29 : mn_dec cJ6_bitCount_0f7a4 29 = some (32, [], .ldc_w 267) := by decide +kernel
theorem eJ6_bitCount_0f7a4_32 : mn_dec cJ6_bitCount_0f7a4 32 = some (33, [], .iand) := by decide +kernel
theorem eJ6_bitCount_0f7a4_33 : mn_dec cJ6_bitCount_0f7a4 33 = some (34, [], .istore 0) := by decide +kernel
theorem eJ6_bitCount_0f7a4_34 : mn_dec cJ6_bitCount_0f7a4 34 = some (35, [], .iload 0) := by decide +kernel
theorem eJ6_bitCount_0f7a4_35 : mn_dec cJ6_bitCount_0f7a4 35 = some (36, [], .iload 0) := by decide +kernel
theorem eJ6_bitCount_0f7a4_36 : mn_dec cJ6_bitCount_0f7a4 36 = some (38, [], .iconst 8) := by decide +kernel
theorem eJ6_bitCount_0f7a4_38 : mn_dec cJ6_bitCount_0f7a4 38 = some (39, [], .iushr) := by decide +kernel
theorem eJ6_bitCount_0f7a4_39 : mn_dec cJ6_bitCount_0f7a4 39 = some (40, [], .iadd) := by decide +kernel
theorem eJ6_bitCount_0f7a4_40 : mn_dec cJ6_bitCount_0f7a4 40 = some (41, [], .istore 0) := by decide +kernel
theorem eJ6_bitCount_0f7a4_41 : mn_dec cJ6_bitCount_0f7a4 41 = some (42, [], .iload 0) := by decide +kernel
theorem eJ6_bitCount_0f7a4_42 : mn_dec cJ6_bitCount_0f7a4 42 = some (43, [], .iload 0) := by decide +kernel
theorem eJ6_bitCount_0f7a4_43 : mn_dec cJ6_bitCount_0f7a4 43 = some (45, [], .iconst 16) := by decide +kernel
theorem eJ6_bitCount_0f7a4_45 : mn_dec cJ6_bitCount_0f7a4 45 = some (46, [], .iushr) := by decide +kernel
theorem eJ6_bitCount_0f7a4_46 : mn_dec cJ6_bitCount_0f7a4 46 = some (47, [], .iadd) := by decide +kernel
theorem eJ6_bitCount_0f7a4_47 : mn_dec cJ6_bitCount_0f7a4 47 = some (48, [], .istore 0) := by decide +kernel
theorem eJ6_bitCount_0f7a4_48 : mn_dec cJ6_bitCount_0f7a4 48 = some (49, [], .iload 0) := by decide +kernel
theorem eJ6_bitCount_0f7a4_49 : mn_dec cJ6_bitCount_0f7a4 49 = some (51, [], .iconst 63) := by decide +kernel
theorem eJ6_bitCount_0f7a4_51 : mn_dec cJ6_bitCount_0f7a4 51 = some (52, [], .iand) := by decide +kernel
theorem eJ6_bitCount_0f7a4_52 : mn_dec cJ6_bitCount_0f7a4 52 = some (53, [], .ireturn) := by decide +kernel
theorem eJ13_compare_74951_0 : mn_dec cJ13_compare_74951 0 = some (1, [], .lload 0) := by decide +kernel
theorem eJ13_compare_74951_1 : mn_dec cJ13_compare_74951 1 = some (2, [], .lload 2) := by decide +kernel
theorem eJ13_compare_74951_2 : mn_dec cJ13_compare_74951 2 = some (3, [], .lcmp) := by decide +kernel
theorem eJ13_compare_74951_3 : mn_dec cJ13_compare_74951 3 = some (6, [10], .ifCond .ge 7) := by decide +kernel
theorem eJ13_compare_74951_6 : mn_dec cJ13_compare_74951 6 = some (7, [], .iconst (-1)) := by decide +kernel
theorem eJ13_compare_74951_7 : mn_dec cJ13_compare_74951 7 = some (10, [21], .goto 14) := by decide +kernel
theorem eJ13_compare_74951_10 : mn_dec cJ13_compare_74951 10 = some (11, [], .lload 0) := by decide +kernel
theorem eJ13_compare_74951_11 : mn_dec cJ13_compare_74951 11 = some (12, [], .lload 2) := by decide +kernel
theorem eJ13_compare_74951_12 : mn_dec cJ13_compare_74951 12 = some (13, [], .lcmp) := by decide +kernel
theorem eJ13_compare_74951_13 : mn_dec cJ13_compare_74951 13 = some (16, [20], .ifCond .ne 7) := by decide +kernel
theorem eJ13_compare_74951_16 : mn_dec cJ13_compare_74951 16 = some (17, [], .iconst 0) := by decide +kernel
theorem eJ13_compare_74951_17 : mn_dec cJ13_compare_74951 17 = some (20, [21], .goto 4) := by decide +kernel
theorem eJ13_compare_74951_20 : mn_dec cJ13_compare_74951 20 = some (21, [], .iconst 1) := by decide +kernel
theorem eJ13_compare_74951_21 : mn_dec cJ13_compare_74951 21 = some (22, [], .ireturn) := by decide +kernel
