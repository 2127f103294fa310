theorem eX6_begin_0 : mn_dec cX6_begin 0 = some ([], .aload_n 0) := by decide +kernel
theorem eX6_begin_1 : mn_dec cX6_begin 1 = some ([], .iconst 0) := by decide +kernel
theorem eX6_begin_2 : mn_dec cX6_begin 2 = some ([], .iload_n 1) := by decide +kernel
theorem eX6_begin_3 : mn_dec cX6_begin 3 = some ([], .bipush 6) := by decide +kernel
theorem eX6_begin_5 : mn_dec cX6_begin 5 = some ([], .invokestatic 27) := by decide +kernel
theorem eX6_begin_8 : mn_dec cX6_begin 8 = some ([], .invokestatic 33) := by decide +kernel
theorem eX6_begin_11 : mn_dec cX6_begin 11 = some ([], .putfield 23) := by decide +kernel
theorem eX6_begin_14 : mn_dec cX6_begin 14 = some ([], .iconst 0) := by decide +kernel
theorem eX6_begin_15 : mn_dec cX6_begin 15 = some ([], .istore_n 2) := by decide +kernel
theorem eX6_begin_16 : mn_dec cX6_begin 16 = some ([], .iload_n 2) := by decide +kernel
theorem eX6_begin_17 : mn_dec cX6_begin 17 = some ([], .bipush 6) := by decide +kernel
theorem eX6_begin_19 : mn_dec cX6_begin 19 = some ([58], .if_icmp .ge 39) := by decide +kernel
theorem eX6_begin_22 : mn_dec cX6_begin 22 = some ([], .aload_n 0) := by decide +kernel
theorem eX6_begin_23 : mn_dec cX6_begin 23 = some ([], .getfield 16) := by decide +kernel
theorem eX6_begin_26 : mn_dec cX6_begin 26 = some ([], .iload_n 2) := by decide +kernel
theorem eX6_begin_27 : mn_dec cX6_begin 27 = some ([], .lconst 0) := by decide +kernel
theorem eX6_begin_28 : mn_dec cX6_begin 28 = some ([], .lastore) := by decide +kernel
theorem eX6_begin_29 : mn_dec cX6_begin 29 = some ([], .iconst 0) := by decide +kernel
theorem eX6_begin_30 : mn_dec cX6_begin 30 = some ([], .istore_n 3) := by decide +kernel
theorem eX6_begin_31 : mn_dec cX6_begin 31 = some ([], .iload_n 3) := by decide +kernel
theorem eX6_begin_32 : mn_dec cX6_begin 32 = some ([], .bipush 6) := by decide +kernel
theorem eX6_begin_34 : mn_dec cX6_begin 34 = some ([52], .if_icmp .ge 18) := by decide +kernel
theorem eX6_begin_37 : mn_dec cX6_begin 37 = some ([], .aload_n 0) := by decide +kernel
theorem eX6_begin_38 : mn_dec cX6_begin 38 = some ([], .getfield 11) := by decide +kernel
theorem eX6_begin_41 : mn_dec cX6_begin 41 = some ([], .iload_n 2) := by decide +kernel
theorem eX6_begin_42 : mn_dec cX6_begin 42 = some ([], .aaload) := by decide +kernel
theorem eX6_begin_43 : mn_dec cX6_begin 43 = some ([], .iload_n 3) := by decide +kernel
theorem eX6_begin_44 : mn_dec cX6_begin 44 = some ([], .lconst 0) := by decide +kernel
theorem eX6_begin_45 : mn_dec cX6_begin 45 = some ([], .lastore) := by decide +kernel
theorem eX6_begin_46 : mn_dec cX6_begin 46 = some ([], .iinc 3 1) := by decide +kernel
theorem eX6_begin_49 : mn_dec cX6_begin 49 = some ([31], .goto (-18)) := by decide +kernel
theorem eX6_begin_52 : mn_dec cX6_begin 52 = some ([], .iinc 2 1) := by decide +kernel
theorem eX6_begin_55 : mn_dec cX6_begin 55 = some ([16], .goto (-39)) := by decide +kernel
theorem eX6_begin_58 : mn_dec cX6_begin 58 = some ([], .return_) := by decide +kernel
theorem eX6_add_0 : mn_dec cX6_add 0 = some ([], .aload_n 0) := by decide +kernel
theorem eX6_add_1 : mn_dec cX6_add 1 = some ([], .iload_n 1) := by decide +kernel
theorem eX6_add_2 : mn_dec cX6_add 2 = some ([], .invokevirtual 36) := by decide +kernel
theorem eX6_add_5 : mn_dec cX6_add 5 = some ([28], .ifCond .eq 23) := by decide +kernel
theorem eX6_add_8 : mn_dec cX6_add 8 = some ([], .aload_n 0) := by decide +kernel
theorem eX6_add_9 : mn_dec cX6_add 9 = some ([], .iload_n 2) := by decide +kernel
theorem eX6_add_10 : mn_dec cX6_add 10 = some ([], .invokevirtual 36) := by decide +kernel
theorem eX6_add_13 : mn_dec cX6_add 13 = some ([28], .ifCond .eq 15) := by decide +kernel
theorem eX6_add_16 : mn_dec cX6_add 16 = some ([], .aload_n 0) := by decide +kernel
theorem eX6_add_17 : mn_dec cX6_add 17 = some ([], .getfield 11) := by decide +kernel
theorem eX6_add_20 : mn_dec cX6_add 20 = some ([], .iload_n 1) := by decide +kernel
theorem eX6_add_21 : mn_dec cX6_add 21 = some ([], .aaload) := by decide +kernel
theorem eX6_add_22 : mn_dec cX6_add 22 = some ([], .iload_n 2) := by decide +kernel
theorem eX6_add_23 : mn_dec cX6_add 23 = some ([], .dup2) := by decide +kernel
theorem eX6_add_24 : mn_dec cX6_add 24 = some ([], .laload) := by decide +kernel
theorem eX6_add_25 : mn_dec cX6_add 25 = some ([], .lload_n 3) := by decide +kernel
theorem eX6_add_26 : mn_dec cX6_add 26 = some ([], .ladd) := by decide +kernel
theorem eX6_add_27 : mn_dec cX6_add 27 = some ([], .lastore) := by decide +kernel
theorem eX6_add_28 : mn_dec cX6_add 28 = some ([], .return_) := by decide +kernel
theorem eX6_addBeside_0 : mn_dec cX6_addBeside 0 = some ([], .aload_n 0) := by decide +kernel
theorem eX6_addBeside_1 : mn_dec cX6_addBeside 1 = some ([], .iload_n 1) := by decide +kernel
theorem eX6_addBeside_2 : mn_dec cX6_addBeside 2 = some ([], .invokevirtual 36) := by decide +kernel
theorem eX6_addBeside_5 : mn_dec cX6_addBeside 5 = some ([18], .ifCond .eq 13) := by decide +kernel
theorem eX6_addBeside_8 : mn_dec cX6_addBeside 8 = some ([], .aload_n 0) := by decide +kernel
theorem eX6_addBeside_9 : mn_dec cX6_addBeside 9 = some ([], .getfield 16) := by decide +kernel
theorem eX6_addBeside_12 : mn_dec cX6_addBeside 12 = some ([], .iload_n 1) := by decide +kernel
theorem eX6_addBeside_13 : mn_dec cX6_addBeside 13 = some ([], .dup2) := by decide +kernel
theorem eX6_addBeside_14 : mn_dec cX6_addBeside 14 = some ([], .laload) := by decide +kernel
theorem eX6_addBeside_15 : mn_dec cX6_addBeside 15 = some ([], .lload_n 2) := by decide +kernel
theorem eX6_addBeside_16 : mn_dec cX6_addBeside 16 = some ([], .ladd) := by decide +kernel
theorem eX6_addBeside_17 : mn_dec cX6_addBeside 17 = some ([], .lastore) := by decide +kernel
theorem eX6_addBeside_18 : mn_dec cX6_addBeside 18 = some ([], .return_) := by decide +kernel
theorem eX6_determinant_0 : mn_dec cX6_determinant 0 = some ([], .iconst 1) := by decide +kernel
theorem eX6_determinant_1 : mn_dec cX6_determinant 1 = some ([], .aload_n 0) := by decide +kernel
theorem eX6_determinant_2 : mn_dec cX6_determinant 2 = some ([], .getfield 23) := by decide +kernel
theorem eX6_determinant_5 : mn_dec cX6_determinant 5 = some ([], .ishl) := by decide +kernel
theorem eX6_determinant_6 : mn_dec cX6_determinant 6 = some ([], .iconst 1) := by decide +kernel
theorem eX6_determinant_7 : mn_dec cX6_determinant 7 = some ([], .isub) := by decide +kernel
theorem eX6_determinant_8 : mn_dec cX6_determinant 8 = some ([], .istore_n 2) := by decide +kernel
theorem eX6_determinant_9 : mn_dec cX6_determinant 9 = some ([], .aload_n 0) := by decide +kernel
theorem eX6_determinant_10 : mn_dec cX6_determinant 10 = some ([], .getfield 20) := by decide +kernel
theorem eX6_determinant_13 : mn_dec cX6_determinant 13 = some ([], .iconst 0) := by decide +kernel
theorem eX6_determinant_14 : mn_dec cX6_determinant 14 = some ([], .lconst 1) := by decide +kernel
theorem eX6_determinant_15 : mn_dec cX6_determinant 15 = some ([], .lastore) := by decide +kernel
theorem eX6_determinant_16 : mn_dec cX6_determinant 16 = some ([], .iconst 1) := by decide +kernel
theorem eX6_determinant_17 : mn_dec cX6_determinant 17 = some ([], .istore_n 3) := by decide +kernel
theorem eX6_determinant_18 : mn_dec cX6_determinant 18 = some ([], .iload_n 3) := by decide +kernel
theorem eX6_determinant_19 : mn_dec cX6_determinant 19 = some ([], .iload_n 2) := by decide +kernel
theorem eX6_determinant_20 : mn_dec cX6_determinant 20 = some ([50], .if_icmp .gt 30) := by decide +kernel
theorem eX6_determinant_23 : mn_dec cX6_determinant 23 = some ([], .iload_n 3) := by decide +kernel
theorem eX6_determinant_24 : mn_dec cX6_determinant 24 = some ([], .aload_n 0) := by decide +kernel
theorem eX6_determinant_25 : mn_dec cX6_determinant 25 = some ([], .getfield 20) := by decide +kernel
theorem eX6_determinant_28 : mn_dec cX6_determinant 28 = some ([], .arraylength) := by decide +kernel
theorem eX6_determinant_29 : mn_dec cX6_determinant 29 = some ([50], .if_icmp .ge 21) := by decide +kernel
theorem eX6_determinant_32 : mn_dec cX6_determinant 32 = some ([], .aload_n 0) := by decide +kernel
theorem eX6_determinant_33 : mn_dec cX6_determinant 33 = some ([], .getfield 20) := by decide +kernel
theorem eX6_determinant_36 : mn_dec cX6_determinant 36 = some ([], .iload_n 3) := by decide +kernel
theorem eX6_determinant_37 : mn_dec cX6_determinant 37 = some ([], .aload_n 0) := by decide +kernel
theorem eX6_determinant_38 : mn_dec cX6_determinant 38 = some ([], .iload_n 3) := by decide +kernel
theorem eX6_determinant_39 : mn_dec cX6_determinant 39 = some ([], .iload_n 1) := by decide +kernel
theorem eX6_determinant_40 : mn_dec cX6_determinant 40 = some ([], .invokevirtual 40) := by decide +kernel
theorem eX6_determinant_43 : mn_dec cX6_determinant 43 = some ([], .lastore) := by decide +kernel
theorem eX6_determinant_44 : mn_dec cX6_determinant 44 = some ([], .iinc 3 1) := by decide +kernel
theorem eX6_determinant_47 : mn_dec cX6_determinant 47 = some ([18], .goto (-29)) := by decide +kernel
theorem eX6_determinant_50 : mn_dec cX6_determinant 50 = some ([], .iload_n 2) := by decide +kernel
theorem eX6_determinant_51 : mn_dec cX6_determinant 51 = some ([], .aload_n 0) := by decide +kernel
theorem eX6_determinant_52 : mn_dec cX6_determinant 52 = some ([], .getfield 20) := by decide +kernel
theorem eX6_determinant_55 : mn_dec cX6_determinant 55 = some ([], .arraylength) := by decide +kernel
theorem eX6_determinant_56 : mn_dec cX6_determinant 56 = some ([68], .if_icmp .ge 12) := by decide +kernel
theorem eX6_determinant_59 : mn_dec cX6_determinant 59 = some ([], .aload_n 0) := by decide +kernel
theorem eX6_determinant_60 : mn_dec cX6_determinant 60 = some ([], .getfield 20) := by decide +kernel
theorem eX6_determinant_63 : mn_dec cX6_determinant 63 = some ([], .iload_n 2) := by decide +kernel
theorem eX6_determinant_64 : mn_dec cX6_determinant 64 = some ([], .laload) := by decide +kernel
theorem eX6_determinant_65 : mn_dec cX6_determinant 65 = some ([69], .goto 4) := by decide +kernel
theorem eX6_determinant_68 : mn_dec cX6_determinant 68 = some ([], .lconst 0) := by decide +kernel
theorem eX6_determinant_69 : mn_dec cX6_determinant 69 = some ([], .lreturn) := by decide +kernel
theorem eX6_determinantWithout_0 : mn_dec cX6_determinantWithout 0 = some ([], .iconst 0) := by decide +kernel
theorem eX6_determinantWithout_1 : mn_dec cX6_determinantWithout 1 = some ([], .istore_n 2) := by decide +kernel
theorem eX6_determinantWithout_2 : mn_dec cX6_determinantWithout 2 = some ([], .iload_n 2) := by decide +kernel
theorem eX6_determinantWithout_3 : mn_dec cX6_determinantWithout 3 = some ([], .aload_n 0) := by decide +kernel
theorem eX6_determinantWithout_4 : mn_dec cX6_determinantWithout 4 = some ([], .getfield 23) := by decide +kernel
theorem eX6_determinantWithout_7 : mn_dec cX6_determinantWithout 7 = some ([41], .if_icmp .ge 34) := by decide +kernel
theorem eX6_determinantWithout_10 : mn_dec cX6_determinantWithout 10 = some ([], .iload_n 2) := by decide +kernel
theorem eX6_determinantWithout_11 : mn_dec cX6_determinantWithout 11 = some ([], .aload_n 0) := by decide +kernel
theorem eX6_determinantWithout_12 : mn_dec cX6_determinantWithout 12 = some ([], .getfield 16) := by decide +kernel
theorem eX6_determinantWithout_15 : mn_dec cX6_determinantWithout 15 = some ([], .arraylength) := by decide +kernel
theorem eX6_determinantWithout_16 : mn_dec cX6_determinantWithout 16 = some ([41], .if_icmp .ge 25) := by decide +kernel
theorem eX6_determinantWithout_19 : mn_dec cX6_determinantWithout 19 = some ([], .aload_n 0) := by decide +kernel
theorem eX6_determinantWithout_20 : mn_dec cX6_determinantWithout 20 = some ([], .getfield 16) := by decide +kernel
theorem eX6_determinantWithout_23 : mn_dec cX6_determinantWithout 23 = some ([], .iload_n 2) := by decide +kernel
theorem eX6_determinantWithout_24 : mn_dec cX6_determinantWithout 24 = some ([], .iload_n 2) := by decide +kernel
theorem eX6_determinantWithout_25 : mn_dec cX6_determinantWithout 25 = some ([], .iload_n 1) := by decide +kernel
theorem eX6_determinantWithout_26 : mn_dec cX6_determinantWithout 26 = some ([33], .if_icmp .ne 7) := by decide +kernel
theorem eX6_determinantWithout_29 : mn_dec cX6_determinantWithout 29 = some ([], .lconst 1) := by decide +kernel
theorem eX6_determinantWithout_30 : mn_dec cX6_determinantWithout 30 = some ([34], .goto 4) := by decide +kernel
theorem eX6_determinantWithout_33 : mn_dec cX6_determinantWithout 33 = some ([], .lconst 0) := by decide +kernel
theorem eX6_determinantWithout_34 : mn_dec cX6_determinantWithout 34 = some ([], .lastore) := by decide +kernel
theorem eX6_determinantWithout_35 : mn_dec cX6_determinantWithout 35 = some ([], .iinc 2 1) := by decide +kernel
theorem eX6_determinantWithout_38 : mn_dec cX6_determinantWithout 38 = some ([2], .goto (-36)) := by decide +kernel
theorem eX6_determinantWithout_41 : mn_dec cX6_determinantWithout 41 = some ([], .aload_n 0) := by decide +kernel
theorem eX6_determinantWithout_42 : mn_dec cX6_determinantWithout 42 = some ([], .iload_n 1) := by decide +kernel
theorem eX6_determinantWithout_43 : mn_dec cX6_determinantWithout 43 = some ([], .invokevirtual 44) := by decide +kernel
theorem eX6_determinantWithout_46 : mn_dec cX6_determinantWithout 46 = some ([], .lreturn) := by decide +kernel
theorem eX6_isPlace_0 : mn_dec cX6_isPlace 0 = some ([], .iload_n 1) := by decide +kernel
theorem eX6_isPlace_1 : mn_dec cX6_isPlace 1 = some ([22], .ifCond .lt 21) := by decide +kernel
theorem eX6_isPlace_4 : mn_dec cX6_isPlace 4 = some ([], .iload_n 1) := by decide +kernel
theorem eX6_isPlace_5 : mn_dec cX6_isPlace 5 = some ([], .aload_n 0) := by decide +kernel
theorem eX6_isPlace_6 : mn_dec cX6_isPlace 6 = some ([], .getfield 23) := by decide +kernel
theorem eX6_isPlace_9 : mn_dec cX6_isPlace 9 = some ([22], .if_icmp .ge 13) := by decide +kernel
theorem eX6_isPlace_12 : mn_dec cX6_isPlace 12 = some ([], .iload_n 1) := by decide +kernel
theorem eX6_isPlace_13 : mn_dec cX6_isPlace 13 = some ([], .bipush 6) := by decide +kernel
theorem eX6_isPlace_15 : mn_dec cX6_isPlace 15 = some ([22], .if_icmp .ge 7) := by decide +kernel
theorem eX6_isPlace_18 : mn_dec cX6_isPlace 18 = some ([], .iconst 1) := by decide +kernel
theorem eX6_isPlace_19 : mn_dec cX6_isPlace 19 = some ([23], .goto 4) := by decide +kernel
theorem eX6_isPlace_22 : mn_dec cX6_isPlace 22 = some ([], .iconst 0) := by decide +kernel
theorem eX6_isPlace_23 : mn_dec cX6_isPlace 23 = some ([], .ireturn) := by decide +kernel
theorem eX6_minorOf_0 : mn_dec cX6_minorOf 0 = some ([], .iload_n 1) := by decide +kernel
theorem eX6_minorOf_1 : mn_dec cX6_minorOf 1 = some ([], .invokestatic 48) := by decide +kernel
theorem eX6_minorOf_4 : mn_dec cX6_minorOf 4 = some ([], .iconst 1) := by decide +kernel
theorem eX6_minorOf_5 : mn_dec cX6_minorOf 5 = some ([], .isub) := by decide +kernel
theorem eX6_minorOf_6 : mn_dec cX6_minorOf 6 = some ([], .istore_n 3) := by decide +kernel
theorem eX6_minorOf_7 : mn_dec cX6_minorOf 7 = some ([], .lconst 0) := by decide +kernel
theorem eX6_minorOf_8 : mn_dec cX6_minorOf 8 = some ([], .lstore 4) := by decide +kernel
theorem eX6_minorOf_10 : mn_dec cX6_minorOf 10 = some ([], .lconst 1) := by decide +kernel
theorem eX6_minorOf_11 : mn_dec cX6_minorOf 11 = some ([], .lstore 6) := by decide +kernel
theorem eX6_minorOf_13 : mn_dec cX6_minorOf 13 = some ([], .aload_n 0) := by decide +kernel
theorem eX6_minorOf_14 : mn_dec cX6_minorOf 14 = some ([], .getfield 23) := by decide +kernel
theorem eX6_minorOf_17 : mn_dec cX6_minorOf 17 = some ([], .iconst 1) := by decide +kernel
theorem eX6_minorOf_18 : mn_dec cX6_minorOf 18 = some ([], .isub) := by decide +kernel
theorem eX6_minorOf_19 : mn_dec cX6_minorOf 19 = some ([], .istore 8) := by decide +kernel
theorem eX6_minorOf_21 : mn_dec cX6_minorOf 21 = some ([], .iload 8) := by decide +kernel
theorem eX6_minorOf_23 : mn_dec cX6_minorOf 23 = some ([92], .ifCond .lt 69) := by decide +kernel
theorem eX6_minorOf_26 : mn_dec cX6_minorOf 26 = some ([], .iload_n 1) := by decide +kernel
theorem eX6_minorOf_27 : mn_dec cX6_minorOf 27 = some ([], .iconst 1) := by decide +kernel
theorem eX6_minorOf_28 : mn_dec cX6_minorOf 28 = some ([], .iload 8) := by decide +kernel
theorem eX6_minorOf_30 : mn_dec cX6_minorOf 30 = some ([], .ishl) := by decide +kernel
theorem eX6_minorOf_31 : mn_dec cX6_minorOf 31 = some ([], .iconst (-1)) := by decide +kernel
theorem eX6_minorOf_32 : mn_dec cX6_minorOf 32 = some ([], .ixor) := by decide +kernel
theorem eX6_minorOf_33 : mn_dec cX6_minorOf 33 = some ([], .iand) := by decide +kernel
theorem eX6_minorOf_34 : mn_dec cX6_minorOf 34 = some ([], .istore 9) := by decide +kernel
theorem eX6_minorOf_36 : mn_dec cX6_minorOf 36 = some ([], .iload 9) := by decide +kernel
theorem eX6_minorOf_38 : mn_dec cX6_minorOf 38 = some ([], .iload_n 1) := by decide +kernel
theorem eX6_minorOf_39 : mn_dec cX6_minorOf 39 = some ([86], .if_icmp .eq 47) := by decide +kernel
theorem eX6_minorOf_42 : mn_dec cX6_minorOf 42 = some ([], .iload 9) := by decide +kernel
theorem eX6_minorOf_44 : mn_dec cX6_minorOf 44 = some ([86], .ifCond .lt 42) := by decide +kernel
theorem eX6_minorOf_47 : mn_dec cX6_minorOf 47 = some ([], .iload 9) := by decide +kernel
theorem eX6_minorOf_49 : mn_dec cX6_minorOf 49 = some ([], .aload_n 0) := by decide +kernel
theorem eX6_minorOf_50 : mn_dec cX6_minorOf 50 = some ([], .getfield 20) := by decide +kernel
theorem eX6_minorOf_53 : mn_dec cX6_minorOf 53 = some ([], .arraylength) := by decide +kernel
theorem eX6_minorOf_54 : mn_dec cX6_minorOf 54 = some ([86], .if_icmp .ge 32) := by decide +kernel
theorem eX6_minorOf_57 : mn_dec cX6_minorOf 57 = some ([], .lload 4) := by decide +kernel
theorem eX6_minorOf_59 : mn_dec cX6_minorOf 59 = some ([], .lload 6) := by decide +kernel
theorem eX6_minorOf_61 : mn_dec cX6_minorOf 61 = some ([], .aload_n 0) := by decide +kernel
theorem eX6_minorOf_62 : mn_dec cX6_minorOf 62 = some ([], .iload_n 3) := by decide +kernel
theorem eX6_minorOf_63 : mn_dec cX6_minorOf 63 = some ([], .iload 8) := by decide +kernel
theorem eX6_minorOf_65 : mn_dec cX6_minorOf 65 = some ([], .iload_n 2) := by decide +kernel
theorem eX6_minorOf_66 : mn_dec cX6_minorOf 66 = some ([], .invokevirtual 54) := by decide +kernel
theorem eX6_minorOf_69 : mn_dec cX6_minorOf 69 = some ([], .lmul) := by decide +kernel
theorem eX6_minorOf_70 : mn_dec cX6_minorOf 70 = some ([], .aload_n 0) := by decide +kernel
theorem eX6_minorOf_71 : mn_dec cX6_minorOf 71 = some ([], .getfield 20) := by decide +kernel
theorem eX6_minorOf_74 : mn_dec cX6_minorOf 74 = some ([], .iload 9) := by decide +kernel
theorem eX6_minorOf_76 : mn_dec cX6_minorOf 76 = some ([], .laload) := by decide +kernel
theorem eX6_minorOf_77 : mn_dec cX6_minorOf 77 = some ([], .lmul) := by decide +kernel
theorem eX6_minorOf_78 : mn_dec cX6_minorOf 78 = some ([], .ladd) := by decide +kernel
theorem eX6_minorOf_79 : mn_dec cX6_minorOf 79 = some ([], .lstore 4) := by decide +kernel
theorem eX6_minorOf_81 : mn_dec cX6_minorOf 81 = some ([], .lload 6) := by decide +kernel
theorem eX6_minorOf_83 : mn_dec cX6_minorOf 83 = some ([], .lneg) := by decide +kernel
theorem eX6_minorOf_84 : mn_dec cX6_minorOf 84 = some ([], .lstore 6) := by decide +kernel
theorem eX6_minorOf_86 : mn_dec cX6_minorOf 86 = some ([], .iinc 8 (-1)) := by decide +kernel
theorem eX6_minorOf_89 : mn_dec cX6_minorOf 89 = some ([21], .goto (-68)) := by decide +kernel
theorem eX6_minorOf_92 : mn_dec cX6_minorOf 92 = some ([], .lload 4) := by decide +kernel
theorem eX6_minorOf_94 : mn_dec cX6_minorOf 94 = some ([], .lreturn) := by decide +kernel
theorem eX6_cellOf_0 : mn_dec cX6_cellOf 0 = some ([], .aload_n 0) := by decide +kernel
theorem eX6_cellOf_1 : mn_dec cX6_cellOf 1 = some ([], .iload_n 1) := by decide +kernel
theorem eX6_cellOf_2 : mn_dec cX6_cellOf 2 = some ([], .invokevirtual 36) := by decide +kernel
theorem eX6_cellOf_5 : mn_dec cX6_cellOf 5 = some ([16], .ifCond .eq 11) := by decide +kernel
theorem eX6_cellOf_8 : mn_dec cX6_cellOf 8 = some ([], .aload_n 0) := by decide +kernel
theorem eX6_cellOf_9 : mn_dec cX6_cellOf 9 = some ([], .iload_n 2) := by decide +kernel
theorem eX6_cellOf_10 : mn_dec cX6_cellOf 10 = some ([], .invokevirtual 36) := by decide +kernel
theorem eX6_cellOf_13 : mn_dec cX6_cellOf 13 = some ([18], .ifCond .ne 5) := by decide +kernel
theorem eX6_cellOf_16 : mn_dec cX6_cellOf 16 = some ([], .lconst 0) := by decide +kernel
theorem eX6_cellOf_17 : mn_dec cX6_cellOf 17 = some ([], .lreturn) := by decide +kernel
theorem eX6_cellOf_18 : mn_dec cX6_cellOf 18 = some ([], .iload_n 2) := by decide +kernel
theorem eX6_cellOf_19 : mn_dec cX6_cellOf 19 = some ([], .iload_n 3) := by decide +kernel
theorem eX6_cellOf_20 : mn_dec cX6_cellOf 20 = some ([32], .if_icmp .ne 12) := by decide +kernel
theorem eX6_cellOf_23 : mn_dec cX6_cellOf 23 = some ([], .aload_n 0) := by decide +kernel
theorem eX6_cellOf_24 : mn_dec cX6_cellOf 24 = some ([], .getfield 16) := by decide +kernel
theorem eX6_cellOf_27 : mn_dec cX6_cellOf 27 = some ([], .iload_n 1) := by decide +kernel
theorem eX6_cellOf_28 : mn_dec cX6_cellOf 28 = some ([], .laload) := by decide +kernel
theorem eX6_cellOf_29 : mn_dec cX6_cellOf 29 = some ([40], .goto 11) := by decide +kernel
theorem eX6_cellOf_32 : mn_dec cX6_cellOf 32 = some ([], .aload_n 0) := by decide +kernel
theorem eX6_cellOf_33 : mn_dec cX6_cellOf 33 = some ([], .getfield 11) := by decide +kernel
theorem eX6_cellOf_36 : mn_dec cX6_cellOf 36 = some ([], .iload_n 1) := by decide +kernel
theorem eX6_cellOf_37 : mn_dec cX6_cellOf 37 = some ([], .aaload) := by decide +kernel
theorem eX6_cellOf_38 : mn_dec cX6_cellOf 38 = some ([], .iload_n 2) := by decide +kernel
theorem eX6_cellOf_39 : mn_dec cX6_cellOf 39 = some ([], .laload) := by decide +kernel
theorem eX6_cellOf_40 : mn_dec cX6_cellOf 40 = some ([], .lreturn) := by decide +kernel
theorem eX7_countKinds_0 : mn_dec cX7_countKinds 0 = some ([], .aload_n 0) := by decide +kernel
theorem eX7_countKinds_1 : mn_dec cX7_countKinds 1 = some ([], .getfield 22) := by decide +kernel
theorem eX7_countKinds_4 : mn_dec cX7_countKinds 4 = some ([], .ireturn) := by decide +kernel
theorem eX7_lookFor_0 : mn_dec cX7_lookFor 0 = some ([], .aload_n 0) := by decide +kernel
theorem eX7_lookFor_1 : mn_dec cX7_lookFor 1 = some ([], .iload_n 2) := by decide +kernel
theorem eX7_lookFor_2 : mn_dec cX7_lookFor 2 = some ([], .iload_n 3) := by decide +kernel
theorem eX7_lookFor_3 : mn_dec cX7_lookFor 3 = some ([], .invokevirtual 32) := by decide +kernel
theorem eX7_lookFor_6 : mn_dec cX7_lookFor 6 = some ([], .aload_n 0) := by decide +kernel
theorem eX7_lookFor_7 : mn_dec cX7_lookFor 7 = some ([], .aload_n 1) := by decide +kernel
theorem eX7_lookFor_8 : mn_dec cX7_lookFor 8 = some ([], .invokevirtual 36) := by decide +kernel
theorem eX7_lookFor_11 : mn_dec cX7_lookFor 11 = some ([], .lstore 4) := by decide +kernel
theorem eX7_lookFor_13 : mn_dec cX7_lookFor 13 = some ([], .aload_n 0) := by decide +kernel
theorem eX7_lookFor_14 : mn_dec cX7_lookFor 14 = some ([], .lload 4) := by decide +kernel
theorem eX7_lookFor_16 : mn_dec cX7_lookFor 16 = some ([], .iconst 0) := by decide +kernel
theorem eX7_lookFor_17 : mn_dec cX7_lookFor 17 = some ([], .invokevirtual 40) := by decide +kernel
theorem eX7_lookFor_20 : mn_dec cX7_lookFor 20 = some ([], .aload_n 0) := by decide +kernel
theorem eX7_lookFor_21 : mn_dec cX7_lookFor 21 = some ([], .lload 4) := by decide +kernel
theorem eX7_lookFor_23 : mn_dec cX7_lookFor 23 = some ([], .invokevirtual 44) := by decide +kernel
theorem eX7_lookFor_26 : mn_dec cX7_lookFor 26 = some ([], .aload_n 0) := by decide +kernel
theorem eX7_lookFor_27 : mn_dec cX7_lookFor 27 = some ([], .getfield 29) := by decide +kernel
theorem eX7_lookFor_30 : mn_dec cX7_lookFor 30 = some ([35], .if_icmp .gt 5) := by decide +kernel
theorem eX7_lookFor_33 : mn_dec cX7_lookFor 33 = some ([], .iconst 0) := by decide +kernel
theorem eX7_lookFor_34 : mn_dec cX7_lookFor 34 = some ([], .ireturn) := by decide +kernel
theorem eX7_lookFor_35 : mn_dec cX7_lookFor 35 = some ([], .iconst 0) := by decide +kernel
theorem eX7_lookFor_36 : mn_dec cX7_lookFor 36 = some ([], .istore 6) := by decide +kernel
theorem eX7_lookFor_38 : mn_dec cX7_lookFor 38 = some ([], .iload 6) := by decide +kernel
theorem eX7_lookFor_40 : mn_dec cX7_lookFor 40 = some ([], .aload_n 0) := by decide +kernel
theorem eX7_lookFor_41 : mn_dec cX7_lookFor 41 = some ([], .getfield 22) := by decide +kernel
theorem eX7_lookFor_44 : mn_dec cX7_lookFor 44 = some ([93], .if_icmp .ge 49) := by decide +kernel
theorem eX7_lookFor_47 : mn_dec cX7_lookFor 47 = some ([], .iload 6) := by decide +kernel
theorem eX7_lookFor_49 : mn_dec cX7_lookFor 49 = some ([], .sipush 500) := by decide +kernel
theorem eX7_lookFor_52 : mn_dec cX7_lookFor 52 = some ([93], .if_icmp .ge 41) := by decide +kernel
theorem eX7_lookFor_55 : mn_dec cX7_lookFor 55 = some ([], .aload_n 0) := by decide +kernel
theorem eX7_lookFor_56 : mn_dec cX7_lookFor 56 = some ([], .aload_n 0) := by decide +kernel
theorem eX7_lookFor_57 : mn_dec cX7_lookFor 57 = some ([], .getfield 11) := by decide +kernel
theorem eX7_lookFor_60 : mn_dec cX7_lookFor 60 = some ([], .iload 6) := by decide +kernel
theorem eX7_lookFor_62 : mn_dec cX7_lookFor 62 = some ([], .laload) := by decide +kernel
theorem eX7_lookFor_63 : mn_dec cX7_lookFor 63 = some ([], .aload_n 0) := by decide +kernel
theorem eX7_lookFor_64 : mn_dec cX7_lookFor 64 = some ([], .getfield 15) := by decide +kernel
theorem eX7_lookFor_67 : mn_dec cX7_lookFor 67 = some ([], .iload 6) := by decide +kernel
theorem eX7_lookFor_69 : mn_dec cX7_lookFor 69 = some ([], .iaload) := by decide +kernel
theorem eX7_lookFor_70 : mn_dec cX7_lookFor 70 = some ([], .iconst 1) := by decide +kernel
theorem eX7_lookFor_71 : mn_dec cX7_lookFor 71 = some ([], .iadd) := by decide +kernel
theorem eX7_lookFor_72 : mn_dec cX7_lookFor 72 = some ([], .invokevirtual 48) := by decide +kernel
theorem eX7_lookFor_75 : mn_dec cX7_lookFor 75 = some ([], .istore 7) := by decide +kernel
theorem eX7_lookFor_77 : mn_dec cX7_lookFor 77 = some ([], .iload 7) := by decide +kernel
theorem eX7_lookFor_79 : mn_dec cX7_lookFor 79 = some ([], .bipush (-6)) := by decide +kernel
theorem eX7_lookFor_81 : mn_dec cX7_lookFor 81 = some ([87], .if_icmp .eq 6) := by decide +kernel
theorem eX7_lookFor_84 : mn_dec cX7_lookFor 84 = some ([], .iload 7) := by decide +kernel
theorem eX7_lookFor_86 : mn_dec cX7_lookFor 86 = some ([], .ireturn) := by decide +kernel
theorem eX7_lookFor_87 : mn_dec cX7_lookFor 87 = some ([], .iinc 6 1) := by decide +kernel
theorem eX7_lookFor_90 : mn_dec cX7_lookFor 90 = some ([38], .goto (-52)) := by decide +kernel
theorem eX7_lookFor_93 : mn_dec cX7_lookFor 93 = some ([], .bipush (-6)) := by decide +kernel
theorem eX7_lookFor_95 : mn_dec cX7_lookFor 95 = some ([], .ireturn) := by decide +kernel
theorem eX7_goOnFrom_0 : mn_dec cX7_goOnFrom 0 = some ([], .iconst 0) := by decide +kernel
theorem eX7_goOnFrom_1 : mn_dec cX7_goOnFrom 1 = some ([], .istore 4) := by decide +kernel
theorem eX7_goOnFrom_3 : mn_dec cX7_goOnFrom 3 = some ([], .iload 4) := by decide +kernel
theorem eX7_goOnFrom_5 : mn_dec cX7_goOnFrom 5 = some ([], .aload_n 0) := by decide +kernel
theorem eX7_goOnFrom_6 : mn_dec cX7_goOnFrom 6 = some ([], .getfield 26) := by decide +kernel
theorem eX7_goOnFrom_9 : mn_dec cX7_goOnFrom 9 = some ([98], .if_icmp .ge 89) := by decide +kernel
theorem eX7_goOnFrom_12 : mn_dec cX7_goOnFrom 12 = some ([], .iload 4) := by decide +kernel
theorem eX7_goOnFrom_14 : mn_dec cX7_goOnFrom 14 = some ([], .iconst 1) := by decide +kernel
theorem eX7_goOnFrom_15 : mn_dec cX7_goOnFrom 15 = some ([], .iadd) := by decide +kernel
theorem eX7_goOnFrom_16 : mn_dec cX7_goOnFrom 16 = some ([], .istore 5) := by decide +kernel
theorem eX7_goOnFrom_18 : mn_dec cX7_goOnFrom 18 = some ([], .iload 5) := by decide +kernel
theorem eX7_goOnFrom_20 : mn_dec cX7_goOnFrom 20 = some ([], .aload_n 0) := by decide +kernel
theorem eX7_goOnFrom_21 : mn_dec cX7_goOnFrom 21 = some ([], .getfield 26) := by decide +kernel
theorem eX7_goOnFrom_24 : mn_dec cX7_goOnFrom 24 = some ([92], .if_icmp .ge 68) := by decide +kernel
theorem eX7_goOnFrom_27 : mn_dec cX7_goOnFrom 27 = some ([], .lload_n 1) := by decide +kernel
theorem eX7_goOnFrom_28 : mn_dec cX7_goOnFrom 28 = some ([], .iload 4) := by decide +kernel
theorem eX7_goOnFrom_30 : mn_dec cX7_goOnFrom 30 = some ([], .iload 5) := by decide +kernel
theorem eX7_goOnFrom_32 : mn_dec cX7_goOnFrom 32 = some ([], .invokestatic 52) := by decide +kernel
theorem eX7_goOnFrom_35 : mn_dec cX7_goOnFrom 35 = some ([], .lstore 6) := by decide +kernel
theorem eX7_goOnFrom_37 : mn_dec cX7_goOnFrom 37 = some ([], .aload_n 0) := by decide +kernel
theorem eX7_goOnFrom_38 : mn_dec cX7_goOnFrom 38 = some ([], .lload 6) := by decide +kernel
theorem eX7_goOnFrom_40 : mn_dec cX7_goOnFrom 40 = some ([], .invokevirtual 56) := by decide +kernel
theorem eX7_goOnFrom_43 : mn_dec cX7_goOnFrom 43 = some ([49], .ifCond .eq 6) := by decide +kernel
theorem eX7_goOnFrom_46 : mn_dec cX7_goOnFrom 46 = some ([86], .goto 40) := by decide +kernel
theorem eX7_goOnFrom_49 : mn_dec cX7_goOnFrom 49 = some ([], .aload_n 0) := by decide +kernel
theorem eX7_goOnFrom_50 : mn_dec cX7_goOnFrom 50 = some ([], .getfield 22) := by decide +kernel
theorem eX7_goOnFrom_53 : mn_dec cX7_goOnFrom 53 = some ([], .aload_n 0) := by decide +kernel
theorem eX7_goOnFrom_54 : mn_dec cX7_goOnFrom 54 = some ([], .getfield 11) := by decide +kernel
theorem eX7_goOnFrom_57 : mn_dec cX7_goOnFrom 57 = some ([], .arraylength) := by decide +kernel
theorem eX7_goOnFrom_58 : mn_dec cX7_goOnFrom 58 = some ([64], .if_icmp .lt 6) := by decide +kernel
theorem eX7_goOnFrom_61 : mn_dec cX7_goOnFrom 61 = some ([], .bipush (-7)) := by decide +kernel
theorem eX7_goOnFrom_63 : mn_dec cX7_goOnFrom 63 = some ([], .ireturn) := by decide +kernel
theorem eX7_goOnFrom_64 : mn_dec cX7_goOnFrom 64 = some ([], .aload_n 0) := by decide +kernel
theorem eX7_goOnFrom_65 : mn_dec cX7_goOnFrom 65 = some ([], .lload 6) := by decide +kernel
theorem eX7_goOnFrom_67 : mn_dec cX7_goOnFrom 67 = some ([], .iload_n 3) := by decide +kernel
theorem eX7_goOnFrom_68 : mn_dec cX7_goOnFrom 68 = some ([], .invokevirtual 40) := by decide +kernel
theorem eX7_goOnFrom_71 : mn_dec cX7_goOnFrom 71 = some ([], .aload_n 0) := by decide +kernel
theorem eX7_goOnFrom_72 : mn_dec cX7_goOnFrom 72 = some ([], .lload 6) := by decide +kernel
theorem eX7_goOnFrom_74 : mn_dec cX7_goOnFrom 74 = some ([], .invokevirtual 44) := by decide +kernel
theorem eX7_goOnFrom_77 : mn_dec cX7_goOnFrom 77 = some ([], .aload_n 0) := by decide +kernel
theorem eX7_goOnFrom_78 : mn_dec cX7_goOnFrom 78 = some ([], .getfield 29) := by decide +kernel
theorem eX7_goOnFrom_81 : mn_dec cX7_goOnFrom 81 = some ([86], .if_icmp .gt 5) := by decide +kernel
theorem eX7_goOnFrom_84 : mn_dec cX7_goOnFrom 84 = some ([], .iload_n 3) := by decide +kernel
theorem eX7_goOnFrom_85 : mn_dec cX7_goOnFrom 85 = some ([], .ireturn) := by decide +kernel
theorem eX7_goOnFrom_86 : mn_dec cX7_goOnFrom 86 = some ([], .iinc 5 1) := by decide +kernel
theorem eX7_goOnFrom_89 : mn_dec cX7_goOnFrom 89 = some ([18], .goto (-71)) := by decide +kernel
theorem eX7_goOnFrom_92 : mn_dec cX7_goOnFrom 92 = some ([], .iinc 4 1) := by decide +kernel
theorem eX7_goOnFrom_95 : mn_dec cX7_goOnFrom 95 = some ([3], .goto (-92)) := by decide +kernel
theorem eX7_goOnFrom_98 : mn_dec cX7_goOnFrom 98 = some ([], .bipush (-6)) := by decide +kernel
theorem eX7_goOnFrom_100 : mn_dec cX7_goOnFrom 100 = some ([], .ireturn) := by decide +kernel
theorem eX7_begin_0 : mn_dec cX7_begin 0 = some ([], .aload_n 0) := by decide +kernel
theorem eX7_begin_1 : mn_dec cX7_begin 1 = some ([], .iload_n 1) := by decide +kernel
theorem eX7_begin_2 : mn_dec cX7_begin 2 = some ([], .putfield 26) := by decide +kernel
theorem eX7_begin_5 : mn_dec cX7_begin 5 = some ([], .aload_n 0) := by decide +kernel
theorem eX7_begin_6 : mn_dec cX7_begin 6 = some ([], .iload_n 2) := by decide +kernel
theorem eX7_begin_7 : mn_dec cX7_begin 7 = some ([], .putfield 29) := by decide +kernel
theorem eX7_begin_10 : mn_dec cX7_begin 10 = some ([], .aload_n 0) := by decide +kernel
theorem eX7_begin_11 : mn_dec cX7_begin 11 = some ([], .iconst 0) := by decide +kernel
theorem eX7_begin_12 : mn_dec cX7_begin 12 = some ([], .putfield 22) := by decide +kernel
theorem eX7_begin_15 : mn_dec cX7_begin 15 = some ([], .iconst 0) := by decide +kernel
theorem eX7_begin_16 : mn_dec cX7_begin 16 = some ([], .istore_n 3) := by decide +kernel
theorem eX7_begin_17 : mn_dec cX7_begin 17 = some ([], .iload_n 3) := by decide +kernel
theorem eX7_begin_18 : mn_dec cX7_begin 18 = some ([], .aload_n 0) := by decide +kernel
theorem eX7_begin_19 : mn_dec cX7_begin 19 = some ([], .getfield 19) := by decide +kernel
theorem eX7_begin_22 : mn_dec cX7_begin 22 = some ([], .arraylength) := by decide +kernel
theorem eX7_begin_23 : mn_dec cX7_begin 23 = some ([39], .if_icmp .ge 16) := by decide +kernel
theorem eX7_begin_26 : mn_dec cX7_begin 26 = some ([], .aload_n 0) := by decide +kernel
theorem eX7_begin_27 : mn_dec cX7_begin 27 = some ([], .getfield 19) := by decide +kernel
theorem eX7_begin_30 : mn_dec cX7_begin 30 = some ([], .iload_n 3) := by decide +kernel
theorem eX7_begin_31 : mn_dec cX7_begin 31 = some ([], .iconst 0) := by decide +kernel
theorem eX7_begin_32 : mn_dec cX7_begin 32 = some ([], .iastore) := by decide +kernel
theorem eX7_begin_33 : mn_dec cX7_begin 33 = some ([], .iinc 3 1) := by decide +kernel
theorem eX7_begin_36 : mn_dec cX7_begin 36 = some ([17], .goto (-19)) := by decide +kernel
theorem eX7_begin_39 : mn_dec cX7_begin 39 = some ([], .return_) := by decide +kernel
theorem eX7_pack_0 : mn_dec cX7_pack 0 = some ([], .lconst 0) := by decide +kernel
theorem eX7_pack_1 : mn_dec cX7_pack 1 = some ([], .lstore_n 2) := by decide +kernel
theorem eX7_pack_2 : mn_dec cX7_pack 2 = some ([], .iconst 0) := by decide +kernel
theorem eX7_pack_3 : mn_dec cX7_pack 3 = some ([], .istore 4) := by decide +kernel
theorem eX7_pack_5 : mn_dec cX7_pack 5 = some ([], .iload 4) := by decide +kernel
theorem eX7_pack_7 : mn_dec cX7_pack 7 = some ([], .aload_n 0) := by decide +kernel
theorem eX7_pack_8 : mn_dec cX7_pack 8 = some ([], .getfield 26) := by decide +kernel
theorem eX7_pack_11 : mn_dec cX7_pack 11 = some ([36], .if_icmp .ge 25) := by decide +kernel
theorem eX7_pack_14 : mn_dec cX7_pack 14 = some ([], .lload_n 2) := by decide +kernel
theorem eX7_pack_15 : mn_dec cX7_pack 15 = some ([], .aload_n 1) := by decide +kernel
theorem eX7_pack_16 : mn_dec cX7_pack 16 = some ([], .iload 4) := by decide +kernel
theorem eX7_pack_18 : mn_dec cX7_pack 18 = some ([], .invokevirtual 60) := by decide +kernel
theorem eX7_pack_21 : mn_dec cX7_pack 21 = some ([], .i2l) := by decide +kernel
theorem eX7_pack_22 : mn_dec cX7_pack 22 = some ([], .bipush 10) := by decide +kernel
theorem eX7_pack_24 : mn_dec cX7_pack 24 = some ([], .iload 4) := by decide +kernel
theorem eX7_pack_26 : mn_dec cX7_pack 26 = some ([], .imul) := by decide +kernel
theorem eX7_pack_27 : mn_dec cX7_pack 27 = some ([], .lshl) := by decide +kernel
theorem eX7_pack_28 : mn_dec cX7_pack 28 = some ([], .lor) := by decide +kernel
theorem eX7_pack_29 : mn_dec cX7_pack 29 = some ([], .lstore_n 2) := by decide +kernel
theorem eX7_pack_30 : mn_dec cX7_pack 30 = some ([], .iinc 4 1) := by decide +kernel
theorem eX7_pack_33 : mn_dec cX7_pack 33 = some ([5], .goto (-28)) := by decide +kernel
theorem eX7_pack_36 : mn_dec cX7_pack 36 = some ([], .lload_n 2) := by decide +kernel
theorem eX7_pack_37 : mn_dec cX7_pack 37 = some ([], .lreturn) := by decide +kernel
theorem eX7_unpack_0 : mn_dec cX7_unpack 0 = some ([], .lload_n 0) := by decide +kernel
theorem eX7_unpack_1 : mn_dec cX7_unpack 1 = some ([], .bipush 10) := by decide +kernel
theorem eX7_unpack_3 : mn_dec cX7_unpack 3 = some ([], .iload_n 2) := by decide +kernel
theorem eX7_unpack_4 : mn_dec cX7_unpack 4 = some ([], .imul) := by decide +kernel
theorem eX7_unpack_5 : mn_dec cX7_unpack 5 = some ([], .lshr) := by decide +kernel
theorem eX7_unpack_6 : mn_dec cX7_unpack 6 = some ([], .ldc2_w 66) := by decide +kernel
theorem eX7_unpack_9 : mn_dec cX7_unpack 9 = some ([], .land) := by decide +kernel
theorem eX7_unpack_10 : mn_dec cX7_unpack 10 = some ([], .l2i) := by decide +kernel
theorem eX7_unpack_11 : mn_dec cX7_unpack 11 = some ([], .ireturn) := by decide +kernel
theorem eX7_afterTalk_0 : mn_dec cX7_afterTalk 0 = some ([], .lload_n 0) := by decide +kernel
theorem eX7_afterTalk_1 : mn_dec cX7_afterTalk 1 = some ([], .iload_n 2) := by decide +kernel
theorem eX7_afterTalk_2 : mn_dec cX7_afterTalk 2 = some ([], .invokestatic 68) := by decide +kernel
theorem eX7_afterTalk_5 : mn_dec cX7_afterTalk 5 = some ([], .istore 4) := by decide +kernel
theorem eX7_afterTalk_7 : mn_dec cX7_afterTalk 7 = some ([], .lload_n 0) := by decide +kernel
theorem eX7_afterTalk_8 : mn_dec cX7_afterTalk 8 = some ([], .iload_n 3) := by decide +kernel
theorem eX7_afterTalk_9 : mn_dec cX7_afterTalk 9 = some ([], .invokestatic 68) := by decide +kernel
theorem eX7_afterTalk_12 : mn_dec cX7_afterTalk 12 = some ([], .istore 5) := by decide +kernel
theorem eX7_afterTalk_14 : mn_dec cX7_afterTalk 14 = some ([], .iload 4) := by decide +kernel
theorem eX7_afterTalk_16 : mn_dec cX7_afterTalk 16 = some ([], .iload 5) := by decide +kernel
theorem eX7_afterTalk_18 : mn_dec cX7_afterTalk 18 = some ([], .iadd) := by decide +kernel
theorem eX7_afterTalk_19 : mn_dec cX7_afterTalk 19 = some ([], .iconst 2) := by decide +kernel
theorem eX7_afterTalk_20 : mn_dec cX7_afterTalk 20 = some ([], .idiv) := by decide +kernel
theorem eX7_afterTalk_21 : mn_dec cX7_afterTalk 21 = some ([], .istore 6) := by decide +kernel
theorem eX7_afterTalk_23 : mn_dec cX7_afterTalk 23 = some ([], .iload 4) := by decide +kernel
theorem eX7_afterTalk_25 : mn_dec cX7_afterTalk 25 = some ([], .iload 5) := by decide +kernel
theorem eX7_afterTalk_27 : mn_dec cX7_afterTalk 27 = some ([], .iadd) := by decide +kernel
theorem eX7_afterTalk_28 : mn_dec cX7_afterTalk 28 = some ([], .iload 6) := by decide +kernel
theorem eX7_afterTalk_30 : mn_dec cX7_afterTalk 30 = some ([], .isub) := by decide +kernel
theorem eX7_afterTalk_31 : mn_dec cX7_afterTalk 31 = some ([], .istore 7) := by decide +kernel
theorem eX7_afterTalk_33 : mn_dec cX7_afterTalk 33 = some ([], .lload_n 0) := by decide +kernel
theorem eX7_afterTalk_34 : mn_dec cX7_afterTalk 34 = some ([], .ldc2_w 66) := by decide +kernel
theorem eX7_afterTalk_37 : mn_dec cX7_afterTalk 37 = some ([], .bipush 10) := by decide +kernel
theorem eX7_afterTalk_39 : mn_dec cX7_afterTalk 39 = some ([], .iload_n 2) := by decide +kernel
theorem eX7_afterTalk_40 : mn_dec cX7_afterTalk 40 = some ([], .imul) := by decide +kernel
theorem eX7_afterTalk_41 : mn_dec cX7_afterTalk 41 = some ([], .lshl) := by decide +kernel
theorem eX7_afterTalk_42 : mn_dec cX7_afterTalk 42 = some ([], .ldc2_w 71) := by decide +kernel
theorem eX7_afterTalk_45 : mn_dec cX7_afterTalk 45 = some ([], .lxor) := by decide +kernel
theorem eX7_afterTalk_46 : mn_dec cX7_afterTalk 46 = some ([], .land) := by decide +kernel
theorem eX7_afterTalk_47 : mn_dec cX7_afterTalk 47 = some ([], .ldc2_w 66) := by decide +kernel
theorem eX7_afterTalk_50 : mn_dec cX7_afterTalk 50 = some ([], .bipush 10) := by decide +kernel
theorem eX7_afterTalk_52 : mn_dec cX7_afterTalk 52 = some ([], .iload_n 3) := by decide +kernel
theorem eX7_afterTalk_53 : mn_dec cX7_afterTalk 53 = some ([], .imul) := by decide +kernel
theorem eX7_afterTalk_54 : mn_dec cX7_afterTalk 54 = some ([], .lshl) := by decide +kernel
theorem eX7_afterTalk_55 : mn_dec cX7_afterTalk 55 = some ([], .ldc2_w 71) := by decide +kernel
theorem eX7_afterTalk_58 : mn_dec cX7_afterTalk 58 = some ([], .lxor) := by decide +kernel
theorem eX7_afterTalk_59 : mn_dec cX7_afterTalk 59 = some ([], .land) := by decide +kernel
theorem eX7_afterTalk_60 : mn_dec cX7_afterTalk 60 = some ([], .lstore 8) := by decide +kernel
theorem eX7_afterTalk_62 : mn_dec cX7_afterTalk 62 = some ([], .iload 4) := by decide +kernel
theorem eX7_afterTalk_64 : mn_dec cX7_afterTalk 64 = some ([], .iload 5) := by decide +kernel
theorem eX7_afterTalk_66 : mn_dec cX7_afterTalk 66 = some ([73], .if_icmp .gt 7) := by decide +kernel
theorem eX7_afterTalk_69 : mn_dec cX7_afterTalk 69 = some ([], .iconst 1) := by decide +kernel
theorem eX7_afterTalk_70 : mn_dec cX7_afterTalk 70 = some ([74], .goto 4) := by decide +kernel
theorem eX7_afterTalk_73 : mn_dec cX7_afterTalk 73 = some ([], .iconst 0) := by decide +kernel
theorem eX7_afterTalk_74 : mn_dec cX7_afterTalk 74 = some ([], .istore 10) := by decide +kernel
theorem eX7_afterTalk_76 : mn_dec cX7_afterTalk 76 = some ([], .lload 8) := by decide +kernel
theorem eX7_afterTalk_78 : mn_dec cX7_afterTalk 78 = some ([], .iload 10) := by decide +kernel
theorem eX7_afterTalk_80 : mn_dec cX7_afterTalk 80 = some ([88], .ifCond .eq 8) := by decide +kernel
theorem eX7_afterTalk_83 : mn_dec cX7_afterTalk 83 = some ([], .iload 6) := by decide +kernel
theorem eX7_afterTalk_85 : mn_dec cX7_afterTalk 85 = some ([90], .goto 5) := by decide +kernel
theorem eX7_afterTalk_88 : mn_dec cX7_afterTalk 88 = some ([], .iload 7) := by decide +kernel
theorem eX7_afterTalk_90 : mn_dec cX7_afterTalk 90 = some ([], .i2l) := by decide +kernel
theorem eX7_afterTalk_91 : mn_dec cX7_afterTalk 91 = some ([], .bipush 10) := by decide +kernel
theorem eX7_afterTalk_93 : mn_dec cX7_afterTalk 93 = some ([], .iload_n 2) := by decide +kernel
theorem eX7_afterTalk_94 : mn_dec cX7_afterTalk 94 = some ([], .imul) := by decide +kernel
theorem eX7_afterTalk_95 : mn_dec cX7_afterTalk 95 = some ([], .lshl) := by decide +kernel
theorem eX7_afterTalk_96 : mn_dec cX7_afterTalk 96 = some ([], .lor) := by decide +kernel
theorem eX7_afterTalk_97 : mn_dec cX7_afterTalk 97 = some ([], .iload 10) := by decide +kernel
theorem eX7_afterTalk_99 : mn_dec cX7_afterTalk 99 = some ([107], .ifCond .eq 8) := by decide +kernel
theorem eX7_afterTalk_102 : mn_dec cX7_afterTalk 102 = some ([], .iload 7) := by decide +kernel
theorem eX7_afterTalk_104 : mn_dec cX7_afterTalk 104 = some ([109], .goto 5) := by decide +kernel
theorem eX7_afterTalk_107 : mn_dec cX7_afterTalk 107 = some ([], .iload 6) := by decide +kernel
theorem eX7_afterTalk_109 : mn_dec cX7_afterTalk 109 = some ([], .i2l) := by decide +kernel
theorem eX7_afterTalk_110 : mn_dec cX7_afterTalk 110 = some ([], .bipush 10) := by decide +kernel
theorem eX7_afterTalk_112 : mn_dec cX7_afterTalk 112 = some ([], .iload_n 3) := by decide +kernel
theorem eX7_afterTalk_113 : mn_dec cX7_afterTalk 113 = some ([], .imul) := by decide +kernel
theorem eX7_afterTalk_114 : mn_dec cX7_afterTalk 114 = some ([], .lshl) := by decide +kernel
theorem eX7_afterTalk_115 : mn_dec cX7_afterTalk 115 = some ([], .lor) := by decide +kernel
theorem eX7_afterTalk_116 : mn_dec cX7_afterTalk 116 = some ([], .lreturn) := by decide +kernel
theorem eX7_spreadOf_0 : mn_dec cX7_spreadOf 0 = some ([], .lload_n 1) := by decide +kernel
theorem eX7_spreadOf_1 : mn_dec cX7_spreadOf 1 = some ([], .iconst 0) := by decide +kernel
theorem eX7_spreadOf_2 : mn_dec cX7_spreadOf 2 = some ([], .invokestatic 68) := by decide +kernel
theorem eX7_spreadOf_5 : mn_dec cX7_spreadOf 5 = some ([], .istore_n 3) := by decide +kernel
theorem eX7_spreadOf_6 : mn_dec cX7_spreadOf 6 = some ([], .iload_n 3) := by decide +kernel
theorem eX7_spreadOf_7 : mn_dec cX7_spreadOf 7 = some ([], .istore 4) := by decide +kernel
theorem eX7_spreadOf_9 : mn_dec cX7_spreadOf 9 = some ([], .iconst 1) := by decide +kernel
theorem eX7_spreadOf_10 : mn_dec cX7_spreadOf 10 = some ([], .istore 5) := by decide +kernel
theorem eX7_spreadOf_12 : mn_dec cX7_spreadOf 12 = some ([], .iload 5) := by decide +kernel
theorem eX7_spreadOf_14 : mn_dec cX7_spreadOf 14 = some ([], .aload_n 0) := by decide +kernel
theorem eX7_spreadOf_15 : mn_dec cX7_spreadOf 15 = some ([], .getfield 26) := by decide +kernel
theorem eX7_spreadOf_18 : mn_dec cX7_spreadOf 18 = some ([51], .if_icmp .ge 33) := by decide +kernel
theorem eX7_spreadOf_21 : mn_dec cX7_spreadOf 21 = some ([], .iload_n 3) := by decide +kernel
theorem eX7_spreadOf_22 : mn_dec cX7_spreadOf 22 = some ([], .lload_n 1) := by decide +kernel
theorem eX7_spreadOf_23 : mn_dec cX7_spreadOf 23 = some ([], .iload 5) := by decide +kernel
theorem eX7_spreadOf_25 : mn_dec cX7_spreadOf 25 = some ([], .invokestatic 68) := by decide +kernel
theorem eX7_spreadOf_28 : mn_dec cX7_spreadOf 28 = some ([], .invokestatic 73) := by decide +kernel
theorem eX7_spreadOf_31 : mn_dec cX7_spreadOf 31 = some ([], .istore_n 3) := by decide +kernel
theorem eX7_spreadOf_32 : mn_dec cX7_spreadOf 32 = some ([], .iload 4) := by decide +kernel
theorem eX7_spreadOf_34 : mn_dec cX7_spreadOf 34 = some ([], .lload_n 1) := by decide +kernel
theorem eX7_spreadOf_35 : mn_dec cX7_spreadOf 35 = some ([], .iload 5) := by decide +kernel
theorem eX7_spreadOf_37 : mn_dec cX7_spreadOf 37 = some ([], .invokestatic 68) := by decide +kernel
theorem eX7_spreadOf_40 : mn_dec cX7_spreadOf 40 = some ([], .invokestatic 79) := by decide +kernel
theorem eX7_spreadOf_43 : mn_dec cX7_spreadOf 43 = some ([], .istore 4) := by decide +kernel
theorem eX7_spreadOf_45 : mn_dec cX7_spreadOf 45 = some ([], .iinc 5 1) := by decide +kernel
theorem eX7_spreadOf_48 : mn_dec cX7_spreadOf 48 = some ([12], .goto (-36)) := by decide +kernel
theorem eX7_spreadOf_51 : mn_dec cX7_spreadOf 51 = some ([], .iload 4) := by decide +kernel
theorem eX7_spreadOf_53 : mn_dec cX7_spreadOf 53 = some ([], .iload_n 3) := by decide +kernel
theorem eX7_spreadOf_54 : mn_dec cX7_spreadOf 54 = some ([], .isub) := by decide +kernel
theorem eX7_spreadOf_55 : mn_dec cX7_spreadOf 55 = some ([], .ireturn) := by decide +kernel
theorem eX7_isKnown_0 : mn_dec cX7_isKnown 0 = some ([], .aload_n 0) := by decide +kernel
theorem eX7_isKnown_1 : mn_dec cX7_isKnown 1 = some ([], .getfield 19) := by decide +kernel
theorem eX7_isKnown_4 : mn_dec cX7_isKnown 4 = some ([], .aload_n 0) := by decide +kernel
theorem eX7_isKnown_5 : mn_dec cX7_isKnown 5 = some ([], .lload_n 1) := by decide +kernel
theorem eX7_isKnown_6 : mn_dec cX7_isKnown 6 = some ([], .invokevirtual 82) := by decide +kernel
theorem eX7_isKnown_9 : mn_dec cX7_isKnown 9 = some ([], .iaload) := by decide +kernel
theorem eX7_isKnown_10 : mn_dec cX7_isKnown 10 = some ([], .iconst 1) := by decide +kernel
theorem eX7_isKnown_11 : mn_dec cX7_isKnown 11 = some ([], .isub) := by decide +kernel
theorem eX7_isKnown_12 : mn_dec cX7_isKnown 12 = some ([], .istore_n 3) := by decide +kernel
theorem eX7_isKnown_13 : mn_dec cX7_isKnown 13 = some ([], .iload_n 3) := by decide +kernel
theorem eX7_isKnown_14 : mn_dec cX7_isKnown 14 = some ([41], .ifCond .lt 27) := by decide +kernel
theorem eX7_isKnown_17 : mn_dec cX7_isKnown 17 = some ([], .iload_n 3) := by decide +kernel
theorem eX7_isKnown_18 : mn_dec cX7_isKnown 18 = some ([], .aload_n 0) := by decide +kernel
theorem eX7_isKnown_19 : mn_dec cX7_isKnown 19 = some ([], .getfield 11) := by decide +kernel
theorem eX7_isKnown_22 : mn_dec cX7_isKnown 22 = some ([], .arraylength) := by decide +kernel
theorem eX7_isKnown_23 : mn_dec cX7_isKnown 23 = some ([41], .if_icmp .ge 18) := by decide +kernel
theorem eX7_isKnown_26 : mn_dec cX7_isKnown 26 = some ([], .aload_n 0) := by decide +kernel
theorem eX7_isKnown_27 : mn_dec cX7_isKnown 27 = some ([], .getfield 11) := by decide +kernel
theorem eX7_isKnown_30 : mn_dec cX7_isKnown 30 = some ([], .iload_n 3) := by decide +kernel
theorem eX7_isKnown_31 : mn_dec cX7_isKnown 31 = some ([], .laload) := by decide +kernel
theorem eX7_isKnown_32 : mn_dec cX7_isKnown 32 = some ([], .lload_n 1) := by decide +kernel
theorem eX7_isKnown_33 : mn_dec cX7_isKnown 33 = some ([], .lcmp) := by decide +kernel
theorem eX7_isKnown_34 : mn_dec cX7_isKnown 34 = some ([41], .ifCond .ne 7) := by decide +kernel
theorem eX7_isKnown_37 : mn_dec cX7_isKnown 37 = some ([], .iconst 1) := by decide +kernel
theorem eX7_isKnown_38 : mn_dec cX7_isKnown 38 = some ([42], .goto 4) := by decide +kernel
theorem eX7_isKnown_41 : mn_dec cX7_isKnown 41 = some ([], .iconst 0) := by decide +kernel
theorem eX7_isKnown_42 : mn_dec cX7_isKnown 42 = some ([], .ireturn) := by decide +kernel
theorem eX7_comeTo_0 : mn_dec cX7_comeTo 0 = some ([], .aload_n 0) := by decide +kernel
theorem eX7_comeTo_1 : mn_dec cX7_comeTo 1 = some ([], .getfield 22) := by decide +kernel
theorem eX7_comeTo_4 : mn_dec cX7_comeTo 4 = some ([], .aload_n 0) := by decide +kernel
theorem eX7_comeTo_5 : mn_dec cX7_comeTo 5 = some ([], .getfield 11) := by decide +kernel
theorem eX7_comeTo_8 : mn_dec cX7_comeTo 8 = some ([], .arraylength) := by decide +kernel
theorem eX7_comeTo_9 : mn_dec cX7_comeTo 9 = some ([56], .if_icmp .ge 47) := by decide +kernel
theorem eX7_comeTo_12 : mn_dec cX7_comeTo 12 = some ([], .aload_n 0) := by decide +kernel
theorem eX7_comeTo_13 : mn_dec cX7_comeTo 13 = some ([], .getfield 11) := by decide +kernel
theorem eX7_comeTo_16 : mn_dec cX7_comeTo 16 = some ([], .aload_n 0) := by decide +kernel
theorem eX7_comeTo_17 : mn_dec cX7_comeTo 17 = some ([], .getfield 22) := by decide +kernel
theorem eX7_comeTo_20 : mn_dec cX7_comeTo 20 = some ([], .lload_n 1) := by decide +kernel
theorem eX7_comeTo_21 : mn_dec cX7_comeTo 21 = some ([], .lastore) := by decide +kernel
theorem eX7_comeTo_22 : mn_dec cX7_comeTo 22 = some ([], .aload_n 0) := by decide +kernel
theorem eX7_comeTo_23 : mn_dec cX7_comeTo 23 = some ([], .getfield 15) := by decide +kernel
theorem eX7_comeTo_26 : mn_dec cX7_comeTo 26 = some ([], .aload_n 0) := by decide +kernel
theorem eX7_comeTo_27 : mn_dec cX7_comeTo 27 = some ([], .getfield 22) := by decide +kernel
theorem eX7_comeTo_30 : mn_dec cX7_comeTo 30 = some ([], .iload_n 3) := by decide +kernel
theorem eX7_comeTo_31 : mn_dec cX7_comeTo 31 = some ([], .iastore) := by decide +kernel
theorem eX7_comeTo_32 : mn_dec cX7_comeTo 32 = some ([], .aload_n 0) := by decide +kernel
theorem eX7_comeTo_33 : mn_dec cX7_comeTo 33 = some ([], .dup) := by decide +kernel
theorem eX7_comeTo_34 : mn_dec cX7_comeTo 34 = some ([], .getfield 22) := by decide +kernel
theorem eX7_comeTo_37 : mn_dec cX7_comeTo 37 = some ([], .iconst 1) := by decide +kernel
theorem eX7_comeTo_38 : mn_dec cX7_comeTo 38 = some ([], .iadd) := by decide +kernel
theorem eX7_comeTo_39 : mn_dec cX7_comeTo 39 = some ([], .putfield 22) := by decide +kernel
theorem eX7_comeTo_42 : mn_dec cX7_comeTo 42 = some ([], .aload_n 0) := by decide +kernel
theorem eX7_comeTo_43 : mn_dec cX7_comeTo 43 = some ([], .getfield 19) := by decide +kernel
theorem eX7_comeTo_46 : mn_dec cX7_comeTo 46 = some ([], .aload_n 0) := by decide +kernel
theorem eX7_comeTo_47 : mn_dec cX7_comeTo 47 = some ([], .lload_n 1) := by decide +kernel
theorem eX7_comeTo_48 : mn_dec cX7_comeTo 48 = some ([], .invokevirtual 82) := by decide +kernel
theorem eX7_comeTo_51 : mn_dec cX7_comeTo 51 = some ([], .aload_n 0) := by decide +kernel
theorem eX7_comeTo_52 : mn_dec cX7_comeTo 52 = some ([], .getfield 22) := by decide +kernel
theorem eX7_comeTo_55 : mn_dec cX7_comeTo 55 = some ([], .iastore) := by decide +kernel
theorem eX7_comeTo_56 : mn_dec cX7_comeTo 56 = some ([], .return_) := by decide +kernel
theorem eX7_slotFor_0 : mn_dec cX7_slotFor 0 = some ([], .lload_n 1) := by decide +kernel
theorem eX7_slotFor_1 : mn_dec cX7_slotFor 1 = some ([], .ldc2_w 85) := by decide +kernel
theorem eX7_slotFor_4 : mn_dec cX7_slotFor 4 = some ([], .lmul) := by decide +kernel
theorem eX7_slotFor_5 : mn_dec cX7_slotFor 5 = some ([], .bipush 54) := by decide +kernel
theorem eX7_slotFor_7 : mn_dec cX7_slotFor 7 = some ([], .lushr) := by decide +kernel
theorem eX7_slotFor_8 : mn_dec cX7_slotFor 8 = some ([], .l2i) := by decide +kernel
theorem eX7_slotFor_9 : mn_dec cX7_slotFor 9 = some ([], .istore_n 3) := by decide +kernel
theorem eX7_slotFor_10 : mn_dec cX7_slotFor 10 = some ([], .iconst 0) := by decide +kernel
theorem eX7_slotFor_11 : mn_dec cX7_slotFor 11 = some ([], .istore 4) := by decide +kernel
theorem eX7_slotFor_13 : mn_dec cX7_slotFor 13 = some ([], .iload 4) := by decide +kernel
theorem eX7_slotFor_15 : mn_dec cX7_slotFor 15 = some ([], .sipush 1024) := by decide +kernel
theorem eX7_slotFor_18 : mn_dec cX7_slotFor 18 = some ([74], .if_icmp .ge 56) := by decide +kernel
theorem eX7_slotFor_21 : mn_dec cX7_slotFor 21 = some ([], .aload_n 0) := by decide +kernel
theorem eX7_slotFor_22 : mn_dec cX7_slotFor 22 = some ([], .getfield 19) := by decide +kernel
theorem eX7_slotFor_25 : mn_dec cX7_slotFor 25 = some ([], .iload_n 3) := by decide +kernel
theorem eX7_slotFor_26 : mn_dec cX7_slotFor 26 = some ([], .iaload) := by decide +kernel
theorem eX7_slotFor_27 : mn_dec cX7_slotFor 27 = some ([], .iconst 1) := by decide +kernel
theorem eX7_slotFor_28 : mn_dec cX7_slotFor 28 = some ([], .isub) := by decide +kernel
theorem eX7_slotFor_29 : mn_dec cX7_slotFor 29 = some ([], .istore 5) := by decide +kernel
theorem eX7_slotFor_31 : mn_dec cX7_slotFor 31 = some ([], .iload 5) := by decide +kernel
theorem eX7_slotFor_33 : mn_dec cX7_slotFor 33 = some ([58], .ifCond .lt 25) := by decide +kernel
theorem eX7_slotFor_36 : mn_dec cX7_slotFor 36 = some ([], .iload 5) := by decide +kernel
theorem eX7_slotFor_38 : mn_dec cX7_slotFor 38 = some ([], .aload_n 0) := by decide +kernel
theorem eX7_slotFor_39 : mn_dec cX7_slotFor 39 = some ([], .getfield 11) := by decide +kernel
theorem eX7_slotFor_42 : mn_dec cX7_slotFor 42 = some ([], .arraylength) := by decide +kernel
theorem eX7_slotFor_43 : mn_dec cX7_slotFor 43 = some ([58], .if_icmp .ge 15) := by decide +kernel
theorem eX7_slotFor_46 : mn_dec cX7_slotFor 46 = some ([], .aload_n 0) := by decide +kernel
theorem eX7_slotFor_47 : mn_dec cX7_slotFor 47 = some ([], .getfield 11) := by decide +kernel
theorem eX7_slotFor_50 : mn_dec cX7_slotFor 50 = some ([], .iload 5) := by decide +kernel
theorem eX7_slotFor_52 : mn_dec cX7_slotFor 52 = some ([], .laload) := by decide +kernel
theorem eX7_slotFor_53 : mn_dec cX7_slotFor 53 = some ([], .lload_n 1) := by decide +kernel
theorem eX7_slotFor_54 : mn_dec cX7_slotFor 54 = some ([], .lcmp) := by decide +kernel
theorem eX7_slotFor_55 : mn_dec cX7_slotFor 55 = some ([60], .ifCond .ne 5) := by decide +kernel
theorem eX7_slotFor_58 : mn_dec cX7_slotFor 58 = some ([], .iload_n 3) := by decide +kernel
theorem eX7_slotFor_59 : mn_dec cX7_slotFor 59 = some ([], .ireturn) := by decide +kernel
theorem eX7_slotFor_60 : mn_dec cX7_slotFor 60 = some ([], .iload_n 3) := by decide +kernel
theorem eX7_slotFor_61 : mn_dec cX7_slotFor 61 = some ([], .iconst 1) := by decide +kernel
theorem eX7_slotFor_62 : mn_dec cX7_slotFor 62 = some ([], .iadd) := by decide +kernel
theorem eX7_slotFor_63 : mn_dec cX7_slotFor 63 = some ([], .sipush 1024) := by decide +kernel
theorem eX7_slotFor_66 : mn_dec cX7_slotFor 66 = some ([], .irem) := by decide +kernel
theorem eX7_slotFor_67 : mn_dec cX7_slotFor 67 = some ([], .istore_n 3) := by decide +kernel
theorem eX7_slotFor_68 : mn_dec cX7_slotFor 68 = some ([], .iinc 4 1) := by decide +kernel
theorem eX7_slotFor_71 : mn_dec cX7_slotFor 71 = some ([13], .goto (-58)) := by decide +kernel
theorem eX7_slotFor_74 : mn_dec cX7_slotFor 74 = some ([], .iload_n 3) := by decide +kernel
theorem eX7_slotFor_75 : mn_dec cX7_slotFor 75 = some ([], .ireturn) := by decide +kernel
theorem eX8_one_0 : mn_dec cX8_one 0 = some ([], .iload_n 1) := by decide +kernel
theorem eX8_one_1 : mn_dec cX8_one 1 = some ([], .invokestatic 58) := by decide +kernel
theorem eX8_one_4 : mn_dec cX8_one 4 = some ([18], .ifCond .eq 14) := by decide +kernel
theorem eX8_one_7 : mn_dec cX8_one 7 = some ([], .aload_n 0) := by decide +kernel
theorem eX8_one_8 : mn_dec cX8_one 8 = some ([], .getfield 10) := by decide +kernel
theorem eX8_one_11 : mn_dec cX8_one 11 = some ([], .iload_n 1) := by decide +kernel
theorem eX8_one_12 : mn_dec cX8_one 12 = some ([], .invokevirtual 62) := by decide +kernel
theorem eX8_one_15 : mn_dec cX8_one 15 = some ([20], .goto 5) := by decide +kernel
theorem eX8_one_18 : mn_dec cX8_one 18 = some ([], .bipush (-2)) := by decide +kernel
theorem eX8_one_20 : mn_dec cX8_one 20 = some ([], .ireturn) := by decide +kernel
theorem eX8_think_0 : mn_dec cX8_think 0 = some ([], .aload_n 0) := by decide +kernel
theorem eX8_think_1 : mn_dec cX8_think 1 = some ([], .getfield 10) := by decide +kernel
theorem eX8_think_4 : mn_dec cX8_think 4 = some ([], .iload_n 1) := by decide +kernel
theorem eX8_think_5 : mn_dec cX8_think 5 = some ([], .invokevirtual 66) := by decide +kernel
theorem eX8_think_8 : mn_dec cX8_think 8 = some ([13], .ifCond .ne 5) := by decide +kernel
theorem eX8_think_11 : mn_dec cX8_think 11 = some ([], .iconst (-1)) := by decide +kernel
theorem eX8_think_12 : mn_dec cX8_think 12 = some ([], .ireturn) := by decide +kernel
theorem eX8_think_13 : mn_dec cX8_think 13 = some ([], .iload_n 2) := by decide +kernel
theorem eX8_think_14 : mn_dec cX8_think 14 = some ([], .invokestatic 58) := by decide +kernel
theorem eX8_think_17 : mn_dec cX8_think 17 = some ([23], .ifCond .ne 6) := by decide +kernel
theorem eX8_think_20 : mn_dec cX8_think 20 = some ([], .bipush (-2)) := by decide +kernel
theorem eX8_think_22 : mn_dec cX8_think 22 = some ([], .ireturn) := by decide +kernel
theorem eX8_think_23 : mn_dec cX8_think 23 = some ([], .aload_n 0) := by decide +kernel
theorem eX8_think_24 : mn_dec cX8_think 24 = some ([], .getfield 10) := by decide +kernel
theorem eX8_think_27 : mn_dec cX8_think 27 = some ([], .iload_n 1) := by decide +kernel
theorem eX8_think_28 : mn_dec cX8_think 28 = some ([], .invokevirtual 69) := by decide +kernel
theorem eX8_think_31 : mn_dec cX8_think 31 = some ([], .istore_n 3) := by decide +kernel
theorem eX8_think_32 : mn_dec cX8_think 32 = some ([], .aload_n 0) := by decide +kernel
theorem eX8_think_33 : mn_dec cX8_think 33 = some ([], .getfield 10) := by decide +kernel
theorem eX8_think_36 : mn_dec cX8_think 36 = some ([], .iload_n 1) := by decide +kernel
theorem eX8_think_37 : mn_dec cX8_think 37 = some ([], .iload_n 2) := by decide +kernel
theorem eX8_think_38 : mn_dec cX8_think 38 = some ([], .invokevirtual 72) := by decide +kernel
theorem eX8_think_41 : mn_dec cX8_think 41 = some ([], .iload_n 3) := by decide +kernel
theorem eX8_think_42 : mn_dec cX8_think 42 = some ([], .ireturn) := by decide +kernel
theorem eX8_stubborn_0 : mn_dec cX8_stubborn 0 = some ([], .aload_n 0) := by decide +kernel
theorem eX8_stubborn_1 : mn_dec cX8_stubborn 1 = some ([], .getfield 10) := by decide +kernel
theorem eX8_stubborn_4 : mn_dec cX8_stubborn 4 = some ([], .iload_n 1) := by decide +kernel
theorem eX8_stubborn_5 : mn_dec cX8_stubborn 5 = some ([], .invokevirtual 66) := by decide +kernel
theorem eX8_stubborn_8 : mn_dec cX8_stubborn 8 = some ([13], .ifCond .ne 5) := by decide +kernel
theorem eX8_stubborn_11 : mn_dec cX8_stubborn 11 = some ([], .iconst (-1)) := by decide +kernel
theorem eX8_stubborn_12 : mn_dec cX8_stubborn 12 = some ([], .ireturn) := by decide +kernel
theorem eX8_stubborn_13 : mn_dec cX8_stubborn 13 = some ([], .aload_n 0) := by decide +kernel
theorem eX8_stubborn_14 : mn_dec cX8_stubborn 14 = some ([], .getfield 10) := by decide +kernel
theorem eX8_stubborn_17 : mn_dec cX8_stubborn 17 = some ([], .iload_n 1) := by decide +kernel
theorem eX8_stubborn_18 : mn_dec cX8_stubborn 18 = some ([], .invokevirtual 76) := by decide +kernel
theorem eX8_stubborn_21 : mn_dec cX8_stubborn 21 = some ([28], .ifCond .eq 7) := by decide +kernel
theorem eX8_stubborn_24 : mn_dec cX8_stubborn 24 = some ([], .iconst 1) := by decide +kernel
theorem eX8_stubborn_25 : mn_dec cX8_stubborn 25 = some ([29], .goto 4) := by decide +kernel
theorem eX8_stubborn_28 : mn_dec cX8_stubborn 28 = some ([], .iconst 0) := by decide +kernel
theorem eX8_stubborn_29 : mn_dec cX8_stubborn 29 = some ([], .istore_n 3) := by decide +kernel
theorem eX8_stubborn_30 : mn_dec cX8_stubborn 30 = some ([], .aload_n 0) := by decide +kernel
theorem eX8_stubborn_31 : mn_dec cX8_stubborn 31 = some ([], .getfield 10) := by decide +kernel
theorem eX8_stubborn_34 : mn_dec cX8_stubborn 34 = some ([], .iload_n 1) := by decide +kernel
theorem eX8_stubborn_35 : mn_dec cX8_stubborn 35 = some ([], .iload_n 2) := by decide +kernel
theorem eX8_stubborn_36 : mn_dec cX8_stubborn 36 = some ([], .invokevirtual 79) := by decide +kernel
theorem eX8_stubborn_39 : mn_dec cX8_stubborn 39 = some ([], .iload_n 3) := by decide +kernel
theorem eX8_stubborn_40 : mn_dec cX8_stubborn 40 = some ([], .ireturn) := by decide +kernel
theorem eX8_weight_0 : mn_dec cX8_weight 0 = some ([], .aload_n 0) := by decide +kernel
theorem eX8_weight_1 : mn_dec cX8_weight 1 = some ([], .getfield 10) := by decide +kernel
theorem eX8_weight_4 : mn_dec cX8_weight 4 = some ([], .iload_n 1) := by decide +kernel
theorem eX8_weight_5 : mn_dec cX8_weight 5 = some ([], .invokevirtual 66) := by decide +kernel
theorem eX8_weight_8 : mn_dec cX8_weight 8 = some ([22], .ifCond .eq 14) := by decide +kernel
theorem eX8_weight_11 : mn_dec cX8_weight 11 = some ([], .aload_n 0) := by decide +kernel
theorem eX8_weight_12 : mn_dec cX8_weight 12 = some ([], .getfield 10) := by decide +kernel
theorem eX8_weight_15 : mn_dec cX8_weight 15 = some ([], .iload_n 2) := by decide +kernel
theorem eX8_weight_16 : mn_dec cX8_weight 16 = some ([], .invokevirtual 66) := by decide +kernel
theorem eX8_weight_19 : mn_dec cX8_weight 19 = some ([24], .ifCond .ne 5) := by decide +kernel
theorem eX8_weight_22 : mn_dec cX8_weight 22 = some ([], .iconst (-1)) := by decide +kernel
theorem eX8_weight_23 : mn_dec cX8_weight 23 = some ([], .ireturn) := by decide +kernel
theorem eX8_weight_24 : mn_dec cX8_weight 24 = some ([], .iload_n 3) := by decide +kernel
theorem eX8_weight_25 : mn_dec cX8_weight 25 = some ([], .iconst 0) := by decide +kernel
theorem eX8_weight_26 : mn_dec cX8_weight 26 = some ([], .bipush 9) := by decide +kernel
theorem eX8_weight_28 : mn_dec cX8_weight 28 = some ([], .invokestatic 83) := by decide +kernel
theorem eX8_weight_31 : mn_dec cX8_weight 31 = some ([37], .ifCond .ne 6) := by decide +kernel
theorem eX8_weight_34 : mn_dec cX8_weight 34 = some ([], .bipush (-2)) := by decide +kernel
theorem eX8_weight_36 : mn_dec cX8_weight 36 = some ([], .ireturn) := by decide +kernel
theorem eX8_weight_37 : mn_dec cX8_weight 37 = some ([], .aload_n 0) := by decide +kernel
theorem eX8_weight_38 : mn_dec cX8_weight 38 = some ([], .getfield 10) := by decide +kernel
theorem eX8_weight_41 : mn_dec cX8_weight 41 = some ([], .iload_n 1) := by decide +kernel
theorem eX8_weight_42 : mn_dec cX8_weight 42 = some ([], .iload_n 2) := by decide +kernel
theorem eX8_weight_43 : mn_dec cX8_weight 43 = some ([], .invokevirtual 87) := by decide +kernel
theorem eX8_weight_46 : mn_dec cX8_weight 46 = some ([], .istore 4) := by decide +kernel
theorem eX8_weight_48 : mn_dec cX8_weight 48 = some ([], .aload_n 0) := by decide +kernel
theorem eX8_weight_49 : mn_dec cX8_weight 49 = some ([], .getfield 10) := by decide +kernel
theorem eX8_weight_52 : mn_dec cX8_weight 52 = some ([], .iload_n 1) := by decide +kernel
theorem eX8_weight_53 : mn_dec cX8_weight 53 = some ([], .iload_n 2) := by decide +kernel
theorem eX8_weight_54 : mn_dec cX8_weight 54 = some ([], .iload_n 3) := by decide +kernel
theorem eX8_weight_55 : mn_dec cX8_weight 55 = some ([], .invokevirtual 91) := by decide +kernel
theorem eX8_weight_58 : mn_dec cX8_weight 58 = some ([], .iload 4) := by decide +kernel
theorem eX8_weight_60 : mn_dec cX8_weight 60 = some ([], .ireturn) := by decide +kernel
theorem eX8_ear_0 : mn_dec cX8_ear 0 = some ([], .iload_n 1) := by decide +kernel
theorem eX8_ear_1 : mn_dec cX8_ear 1 = some ([], .invokestatic 58) := by decide +kernel
theorem eX8_ear_4 : mn_dec cX8_ear 4 = some ([10], .ifCond .ne 6) := by decide +kernel
theorem eX8_ear_7 : mn_dec cX8_ear 7 = some ([], .bipush (-2)) := by decide +kernel
theorem eX8_ear_9 : mn_dec cX8_ear 9 = some ([], .ireturn) := by decide +kernel
theorem eX8_ear_10 : mn_dec cX8_ear 10 = some ([], .aload_n 0) := by decide +kernel
theorem eX8_ear_11 : mn_dec cX8_ear 11 = some ([], .getfield 10) := by decide +kernel
theorem eX8_ear_14 : mn_dec cX8_ear 14 = some ([], .invokevirtual 95) := by decide +kernel
theorem eX8_ear_17 : mn_dec cX8_ear 17 = some ([], .istore_n 2) := by decide +kernel
theorem eX8_ear_18 : mn_dec cX8_ear 18 = some ([], .aload_n 0) := by decide +kernel
theorem eX8_ear_19 : mn_dec cX8_ear 19 = some ([], .getfield 10) := by decide +kernel
theorem eX8_ear_22 : mn_dec cX8_ear 22 = some ([], .iload_n 1) := by decide +kernel
theorem eX8_ear_23 : mn_dec cX8_ear 23 = some ([], .invokevirtual 99) := by decide +kernel
theorem eX8_ear_26 : mn_dec cX8_ear 26 = some ([], .iload_n 2) := by decide +kernel
theorem eX8_ear_27 : mn_dec cX8_ear 27 = some ([], .ireturn) := by decide +kernel
theorem eX8_rounds_0 : mn_dec cX8_rounds 0 = some ([], .iload_n 1) := by decide +kernel
theorem eX8_rounds_1 : mn_dec cX8_rounds 1 = some ([], .iconst 1) := by decide +kernel
theorem eX8_rounds_2 : mn_dec cX8_rounds 2 = some ([], .sipush 300) := by decide +kernel
theorem eX8_rounds_5 : mn_dec cX8_rounds 5 = some ([], .invokestatic 83) := by decide +kernel
theorem eX8_rounds_8 : mn_dec cX8_rounds 8 = some ([26], .ifCond .eq 18) := by decide +kernel
theorem eX8_rounds_11 : mn_dec cX8_rounds 11 = some ([], .aload_n 0) := by decide +kernel
theorem eX8_rounds_12 : mn_dec cX8_rounds 12 = some ([], .getfield 19) := by decide +kernel
theorem eX8_rounds_15 : mn_dec cX8_rounds 15 = some ([], .aload_n 0) := by decide +kernel
theorem eX8_rounds_16 : mn_dec cX8_rounds 16 = some ([], .getfield 10) := by decide +kernel
theorem eX8_rounds_19 : mn_dec cX8_rounds 19 = some ([], .iload_n 1) := by decide +kernel
theorem eX8_rounds_20 : mn_dec cX8_rounds 20 = some ([], .invokevirtual 103) := by decide +kernel
theorem eX8_rounds_23 : mn_dec cX8_rounds 23 = some ([28], .goto 5) := by decide +kernel
theorem eX8_rounds_26 : mn_dec cX8_rounds 26 = some ([], .bipush (-2)) := by decide +kernel
theorem eX8_rounds_28 : mn_dec cX8_rounds 28 = some ([], .ireturn) := by decide +kernel
theorem eX8_settle_0 : mn_dec cX8_settle 0 = some ([], .aload_n 0) := by decide +kernel
theorem eX8_settle_1 : mn_dec cX8_settle 1 = some ([], .getfield 19) := by decide +kernel
theorem eX8_settle_4 : mn_dec cX8_settle 4 = some ([], .aload_n 0) := by decide +kernel
theorem eX8_settle_5 : mn_dec cX8_settle 5 = some ([], .getfield 10) := by decide +kernel
theorem eX8_settle_8 : mn_dec cX8_settle 8 = some ([], .invokevirtual 107) := by decide +kernel
theorem eX8_settle_11 : mn_dec cX8_settle 11 = some ([], .ireturn) := by decide +kernel
theorem eX8_about_0 : mn_dec cX8_about 0 = some ([], .aload_n 0) := by decide +kernel
theorem eX8_about_1 : mn_dec cX8_about 1 = some ([], .getfield 10) := by decide +kernel
theorem eX8_about_4 : mn_dec cX8_about 4 = some ([], .iload_n 1) := by decide +kernel
theorem eX8_about_5 : mn_dec cX8_about 5 = some ([], .invokevirtual 66) := by decide +kernel
theorem eX8_about_8 : mn_dec cX8_about 8 = some ([13], .ifCond .ne 5) := by decide +kernel
theorem eX8_about_11 : mn_dec cX8_about 11 = some ([], .iconst (-1)) := by decide +kernel
theorem eX8_about_12 : mn_dec cX8_about 12 = some ([], .ireturn) := by decide +kernel
theorem eX8_about_13 : mn_dec cX8_about 13 = some ([], .iload_n 2) := by decide +kernel
theorem eX8_about_14 : mn_dec cX8_about 14 = some ([106, 44, 53, 70, 79], .tableswitch 92 0 3 #[30, 39, 56, 65]) := by decide +kernel
theorem eX8_about_44 : mn_dec cX8_about 44 = some ([], .aload_n 0) := by decide +kernel
theorem eX8_about_45 : mn_dec cX8_about 45 = some ([], .getfield 10) := by decide +kernel
theorem eX8_about_48 : mn_dec cX8_about 48 = some ([], .iload_n 1) := by decide +kernel
theorem eX8_about_49 : mn_dec cX8_about 49 = some ([], .invokevirtual 69) := by decide +kernel
theorem eX8_about_52 : mn_dec cX8_about 52 = some ([], .ireturn) := by decide +kernel
theorem eX8_about_53 : mn_dec cX8_about 53 = some ([], .aload_n 0) := by decide +kernel
theorem eX8_about_54 : mn_dec cX8_about 54 = some ([], .getfield 10) := by decide +kernel
theorem eX8_about_57 : mn_dec cX8_about 57 = some ([], .iload_n 1) := by decide +kernel
theorem eX8_about_58 : mn_dec cX8_about 58 = some ([], .invokevirtual 76) := by decide +kernel
theorem eX8_about_61 : mn_dec cX8_about 61 = some ([68], .ifCond .eq 7) := by decide +kernel
theorem eX8_about_64 : mn_dec cX8_about 64 = some ([], .iconst 1) := by decide +kernel
theorem eX8_about_65 : mn_dec cX8_about 65 = some ([69], .goto 4) := by decide +kernel
theorem eX8_about_68 : mn_dec cX8_about 68 = some ([], .iconst 0) := by decide +kernel
theorem eX8_about_69 : mn_dec cX8_about 69 = some ([], .ireturn) := by decide +kernel
theorem eX8_about_70 : mn_dec cX8_about 70 = some ([], .aload_n 0) := by decide +kernel
theorem eX8_about_71 : mn_dec cX8_about 71 = some ([], .getfield 10) := by decide +kernel
theorem eX8_about_74 : mn_dec cX8_about 74 = some ([], .iload_n 1) := by decide +kernel
theorem eX8_about_75 : mn_dec cX8_about 75 = some ([], .invokevirtual 111) := by decide +kernel
theorem eX8_about_78 : mn_dec cX8_about 78 = some ([], .ireturn) := by decide +kernel
theorem eX8_about_79 : mn_dec cX8_about 79 = some ([], .aload_n 0) := by decide +kernel
theorem eX8_about_80 : mn_dec cX8_about 80 = some ([], .getfield 26) := by decide +kernel
theorem eX8_about_83 : mn_dec cX8_about 83 = some ([], .aload_n 0) := by decide +kernel
theorem eX8_about_84 : mn_dec cX8_about 84 = some ([], .getfield 10) := by decide +kernel
theorem eX8_about_87 : mn_dec cX8_about 87 = some ([], .invokevirtual 114) := by decide +kernel
theorem eX8_about_90 : mn_dec cX8_about 90 = some ([], .aload_n 0) := by decide +kernel
theorem eX8_about_91 : mn_dec cX8_about 91 = some ([], .getfield 26) := by decide +kernel
theorem eX8_about_94 : mn_dec cX8_about 94 = some ([], .aload_n 0) := by decide +kernel
theorem eX8_about_95 : mn_dec cX8_about 95 = some ([], .getfield 26) := by decide +kernel
theorem eX8_about_98 : mn_dec cX8_about 98 = some ([], .iload_n 1) := by decide +kernel
theorem eX8_about_99 : mn_dec cX8_about 99 = some ([], .invokevirtual 118) := by decide +kernel
theorem eX8_about_102 : mn_dec cX8_about 102 = some ([], .invokevirtual 121) := by decide +kernel
theorem eX8_about_105 : mn_dec cX8_about 105 = some ([], .ireturn) := by decide +kernel
theorem eX8_about_106 : mn_dec cX8_about 106 = some ([], .bipush (-2)) := by decide +kernel
theorem eX8_about_108 : mn_dec cX8_about 108 = some ([], .ireturn) := by decide +kernel
theorem eX8_told_0 : mn_dec cX8_told 0 = some ([], .iload_n 1) := by decide +kernel
theorem eX8_told_1 : mn_dec cX8_told 1 = some ([97, 44, 52, 60, 65, 73, 81, 89], .tableswitch 96 0 6 #[43, 51, 59, 64, 72, 80, 88]) := by decide +kernel
theorem eX8_told_44 : mn_dec cX8_told 44 = some ([], .aload_n 0) := by decide +kernel
theorem eX8_told_45 : mn_dec cX8_told 45 = some ([], .getfield 10) := by decide +kernel
theorem eX8_told_48 : mn_dec cX8_told 48 = some ([], .invokevirtual 124) := by decide +kernel
theorem eX8_told_51 : mn_dec cX8_told 51 = some ([], .ireturn) := by decide +kernel
theorem eX8_told_52 : mn_dec cX8_told 52 = some ([], .aload_n 0) := by decide +kernel
theorem eX8_told_53 : mn_dec cX8_told 53 = some ([], .getfield 10) := by decide +kernel
theorem eX8_told_56 : mn_dec cX8_told 56 = some ([], .invokevirtual 95) := by decide +kernel
theorem eX8_told_59 : mn_dec cX8_told 59 = some ([], .ireturn) := by decide +kernel
theorem eX8_told_60 : mn_dec cX8_told 60 = some ([], .aload_n 0) := by decide +kernel
theorem eX8_told_61 : mn_dec cX8_told 61 = some ([], .invokevirtual 127) := by decide +kernel
theorem eX8_told_64 : mn_dec cX8_told 64 = some ([], .ireturn) := by decide +kernel
theorem eX8_told_65 : mn_dec cX8_told 65 = some ([], .aload_n 0) := by decide +kernel
theorem eX8_told_66 : mn_dec cX8_told 66 = some ([], .getfield 10) := by decide +kernel
theorem eX8_told_69 : mn_dec cX8_told 69 = some ([], .invokevirtual 130) := by decide +kernel
theorem eX8_told_72 : mn_dec cX8_told 72 = some ([], .ireturn) := by decide +kernel
theorem eX8_told_73 : mn_dec cX8_told 73 = some ([], .aload_n 0) := by decide +kernel
theorem eX8_told_74 : mn_dec cX8_told 74 = some ([], .getfield 10) := by decide +kernel
theorem eX8_told_77 : mn_dec cX8_told 77 = some ([], .invokevirtual 133) := by decide +kernel
theorem eX8_told_80 : mn_dec cX8_told 80 = some ([], .ireturn) := by decide +kernel
theorem eX8_told_81 : mn_dec cX8_told 81 = some ([], .aload_n 0) := by decide +kernel
theorem eX8_told_82 : mn_dec cX8_told 82 = some ([], .getfield 10) := by decide +kernel
theorem eX8_told_85 : mn_dec cX8_told 85 = some ([], .invokevirtual 136) := by decide +kernel
theorem eX8_told_88 : mn_dec cX8_told 88 = some ([], .ireturn) := by decide +kernel
theorem eX8_told_89 : mn_dec cX8_told 89 = some ([], .aload_n 0) := by decide +kernel
theorem eX8_told_90 : mn_dec cX8_told 90 = some ([], .getfield 10) := by decide +kernel
theorem eX8_told_93 : mn_dec cX8_told 93 = some ([], .invokevirtual 139) := by decide +kernel
theorem eX8_told_96 : mn_dec cX8_told 96 = some ([], .ireturn) := by decide +kernel
theorem eX8_told_97 : mn_dec cX8_told 97 = some ([], .bipush (-2)) := by decide +kernel
theorem eX8_told_99 : mn_dec cX8_told 99 = some ([], .ireturn) := by decide +kernel
theorem eX8_keep_0 : mn_dec cX8_keep 0 = some ([], .aload_n 0) := by decide +kernel
theorem eX8_keep_1 : mn_dec cX8_keep 1 = some ([], .getfield 33) := by decide +kernel
theorem eX8_keep_4 : mn_dec cX8_keep 4 = some ([], .aload_n 0) := by decide +kernel
theorem eX8_keep_5 : mn_dec cX8_keep 5 = some ([], .getfield 10) := by decide +kernel
theorem eX8_keep_8 : mn_dec cX8_keep 8 = some ([], .invokevirtual 142) := by decide +kernel
theorem eX8_keep_11 : mn_dec cX8_keep 11 = some ([], .ireturn) := by decide +kernel
theorem eX8_back_0 : mn_dec cX8_back 0 = some ([], .aload_n 0) := by decide +kernel
theorem eX8_back_1 : mn_dec cX8_back 1 = some ([], .getfield 33) := by decide +kernel
theorem eX8_back_4 : mn_dec cX8_back 4 = some ([], .invokevirtual 145) := by decide +kernel
theorem eX8_back_7 : mn_dec cX8_back 7 = some ([24], .ifCond .eq 17) := by decide +kernel
theorem eX8_back_10 : mn_dec cX8_back 10 = some ([], .aload_n 0) := by decide +kernel
theorem eX8_back_11 : mn_dec cX8_back 11 = some ([], .getfield 33) := by decide +kernel
theorem eX8_back_14 : mn_dec cX8_back 14 = some ([], .aload_n 0) := by decide +kernel
theorem eX8_back_15 : mn_dec cX8_back 15 = some ([], .getfield 10) := by decide +kernel
theorem eX8_back_18 : mn_dec cX8_back 18 = some ([], .invokevirtual 149) := by decide +kernel
theorem eX8_back_21 : mn_dec cX8_back 21 = some ([26], .goto 5) := by decide +kernel
theorem eX8_back_24 : mn_dec cX8_back 24 = some ([], .bipush (-3)) := by decide +kernel
theorem eX8_back_26 : mn_dec cX8_back 26 = some ([], .ireturn) := by decide +kernel
theorem eX8_width_0 : mn_dec cX8_width 0 = some ([], .iload_n 1) := by decide +kernel
theorem eX8_width_1 : mn_dec cX8_width 1 = some ([], .invokestatic 58) := by decide +kernel
theorem eX8_width_4 : mn_dec cX8_width 4 = some ([36], .ifCond .eq 32) := by decide +kernel
theorem eX8_width_7 : mn_dec cX8_width 7 = some ([], .iload_n 2) := by decide +kernel
theorem eX8_width_8 : mn_dec cX8_width 8 = some ([], .invokestatic 58) := by decide +kernel
theorem eX8_width_11 : mn_dec cX8_width 11 = some ([36], .ifCond .eq 25) := by decide +kernel
theorem eX8_width_14 : mn_dec cX8_width 14 = some ([], .iload_n 2) := by decide +kernel
theorem eX8_width_15 : mn_dec cX8_width 15 = some ([], .iload_n 1) := by decide +kernel
theorem eX8_width_16 : mn_dec cX8_width 16 = some ([], .iload_n 1) := by decide +kernel
theorem eX8_width_17 : mn_dec cX8_width 17 = some ([], .bipush 30) := by decide +kernel
theorem eX8_width_19 : mn_dec cX8_width 19 = some ([], .iadd) := by decide +kernel
theorem eX8_width_20 : mn_dec cX8_width 20 = some ([], .invokestatic 83) := by decide +kernel
theorem eX8_width_23 : mn_dec cX8_width 23 = some ([36], .ifCond .eq 13) := by decide +kernel
theorem eX8_width_26 : mn_dec cX8_width 26 = some ([], .iload_n 3) := by decide +kernel
theorem eX8_width_27 : mn_dec cX8_width 27 = some ([], .iconst 1) := by decide +kernel
theorem eX8_width_28 : mn_dec cX8_width 28 = some ([], .bipush 12) := by decide +kernel
theorem eX8_width_30 : mn_dec cX8_width 30 = some ([], .invokestatic 83) := by decide +kernel
theorem eX8_width_33 : mn_dec cX8_width 33 = some ([39], .ifCond .ne 6) := by decide +kernel
theorem eX8_width_36 : mn_dec cX8_width 36 = some ([], .bipush (-2)) := by decide +kernel
theorem eX8_width_38 : mn_dec cX8_width 38 = some ([], .ireturn) := by decide +kernel
theorem eX8_width_39 : mn_dec cX8_width 39 = some ([], .aload_n 0) := by decide +kernel
theorem eX8_width_40 : mn_dec cX8_width 40 = some ([], .getfield 10) := by decide +kernel
theorem eX8_width_43 : mn_dec cX8_width 43 = some ([], .invokevirtual 95) := by decide +kernel
theorem eX8_width_46 : mn_dec cX8_width 46 = some ([], .istore 4) := by decide +kernel
theorem eX8_width_48 : mn_dec cX8_width 48 = some ([], .bipush (-6)) := by decide +kernel
theorem eX8_width_50 : mn_dec cX8_width 50 = some ([], .istore 5) := by decide +kernel
theorem eX8_width_52 : mn_dec cX8_width 52 = some ([], .aload_n 0) := by decide +kernel
theorem eX8_width_53 : mn_dec cX8_width 53 = some ([], .getfield 19) := by decide +kernel
theorem eX8_width_56 : mn_dec cX8_width 56 = some ([], .aload_n 0) := by decide +kernel
theorem eX8_width_57 : mn_dec cX8_width 57 = some ([], .getfield 10) := by decide +kernel
theorem eX8_width_60 : mn_dec cX8_width 60 = some ([], .invokevirtual 152) := by decide +kernel
theorem eX8_width_63 : mn_dec cX8_width 63 = some ([], .iload_n 1) := by decide +kernel
theorem eX8_width_64 : mn_dec cX8_width 64 = some ([], .istore 6) := by decide +kernel
theorem eX8_width_66 : mn_dec cX8_width 66 = some ([], .iload 6) := by decide +kernel
theorem eX8_width_68 : mn_dec cX8_width 68 = some ([], .iload_n 2) := by decide +kernel
theorem eX8_width_69 : mn_dec cX8_width 69 = some ([133], .if_icmp .gt 64) := by decide +kernel
theorem eX8_width_72 : mn_dec cX8_width 72 = some ([], .iload 5) := by decide +kernel
theorem eX8_width_74 : mn_dec cX8_width 74 = some ([], .bipush (-6)) := by decide +kernel
theorem eX8_width_76 : mn_dec cX8_width 76 = some ([133], .if_icmp .ne 57) := by decide +kernel
theorem eX8_width_79 : mn_dec cX8_width 79 = some ([], .aload_n 0) := by decide +kernel
theorem eX8_width_80 : mn_dec cX8_width 80 = some ([], .getfield 10) := by decide +kernel
theorem eX8_width_83 : mn_dec cX8_width 83 = some ([], .iload 6) := by decide +kernel
theorem eX8_width_85 : mn_dec cX8_width 85 = some ([], .invokevirtual 99) := by decide +kernel
theorem eX8_width_88 : mn_dec cX8_width 88 = some ([], .aload_n 0) := by decide +kernel
theorem eX8_width_89 : mn_dec cX8_width 89 = some ([], .getfield 19) := by decide +kernel
theorem eX8_width_92 : mn_dec cX8_width 92 = some ([], .aload_n 0) := by decide +kernel
theorem eX8_width_93 : mn_dec cX8_width 93 = some ([], .getfield 10) := by decide +kernel
theorem eX8_width_96 : mn_dec cX8_width 96 = some ([], .invokevirtual 107) := by decide +kernel
theorem eX8_width_99 : mn_dec cX8_width 99 = some ([], .bipush (-7)) := by decide +kernel
theorem eX8_width_101 : mn_dec cX8_width 101 = some ([116], .if_icmp .eq 15) := by decide +kernel
theorem eX8_width_104 : mn_dec cX8_width 104 = some ([], .aload_n 0) := by decide +kernel
theorem eX8_width_105 : mn_dec cX8_width 105 = some ([], .invokevirtual 127) := by decide +kernel
theorem eX8_width_108 : mn_dec cX8_width 108 = some ([], .iload_n 3) := by decide +kernel
theorem eX8_width_109 : mn_dec cX8_width 109 = some ([116], .if_icmp .gt 7) := by decide +kernel
theorem eX8_width_112 : mn_dec cX8_width 112 = some ([], .iload 6) := by decide +kernel
theorem eX8_width_114 : mn_dec cX8_width 114 = some ([], .istore 5) := by decide +kernel
theorem eX8_width_116 : mn_dec cX8_width 116 = some ([], .aload_n 0) := by decide +kernel
theorem eX8_width_117 : mn_dec cX8_width 117 = some ([], .getfield 19) := by decide +kernel
theorem eX8_width_120 : mn_dec cX8_width 120 = some ([], .aload_n 0) := by decide +kernel
theorem eX8_width_121 : mn_dec cX8_width 121 = some ([], .getfield 10) := by decide +kernel
theorem eX8_width_124 : mn_dec cX8_width 124 = some ([], .invokevirtual 155) := by decide +kernel
theorem eX8_width_127 : mn_dec cX8_width 127 = some ([], .iinc 6 1) := by decide +kernel
theorem eX8_width_130 : mn_dec cX8_width 130 = some ([66], .goto (-64)) := by decide +kernel
theorem eX8_width_133 : mn_dec cX8_width 133 = some ([], .aload_n 0) := by decide +kernel
theorem eX8_width_134 : mn_dec cX8_width 134 = some ([], .getfield 10) := by decide +kernel
theorem eX8_width_137 : mn_dec cX8_width 137 = some ([], .iload 4) := by decide +kernel
theorem eX8_width_139 : mn_dec cX8_width 139 = some ([], .invokevirtual 99) := by decide +kernel
theorem eX8_width_142 : mn_dec cX8_width 142 = some ([], .iload 5) := by decide +kernel
theorem eX8_width_144 : mn_dec cX8_width 144 = some ([], .ireturn) := by decide +kernel
theorem eX8_leads_0 : mn_dec cX8_leads 0 = some ([], .aload_n 0) := by decide +kernel
theorem eX8_leads_1 : mn_dec cX8_leads 1 = some ([], .getfield 10) := by decide +kernel
theorem eX8_leads_4 : mn_dec cX8_leads 4 = some ([], .iload_n 1) := by decide +kernel
theorem eX8_leads_5 : mn_dec cX8_leads 5 = some ([], .invokevirtual 66) := by decide +kernel
theorem eX8_leads_8 : mn_dec cX8_leads 8 = some ([22], .ifCond .eq 14) := by decide +kernel
theorem eX8_leads_11 : mn_dec cX8_leads 11 = some ([], .aload_n 0) := by decide +kernel
theorem eX8_leads_12 : mn_dec cX8_leads 12 = some ([], .getfield 10) := by decide +kernel
theorem eX8_leads_15 : mn_dec cX8_leads 15 = some ([], .iload_n 2) := by decide +kernel
theorem eX8_leads_16 : mn_dec cX8_leads 16 = some ([], .invokevirtual 66) := by decide +kernel
theorem eX8_leads_19 : mn_dec cX8_leads 19 = some ([24], .ifCond .ne 5) := by decide +kernel
theorem eX8_leads_22 : mn_dec cX8_leads 22 = some ([], .iconst (-1)) := by decide +kernel
theorem eX8_leads_23 : mn_dec cX8_leads 23 = some ([], .ireturn) := by decide +kernel
theorem eX8_leads_24 : mn_dec cX8_leads 24 = some ([], .aload_n 0) := by decide +kernel
theorem eX8_leads_25 : mn_dec cX8_leads 25 = some ([], .getfield 26) := by decide +kernel
theorem eX8_leads_28 : mn_dec cX8_leads 28 = some ([], .aload_n 0) := by decide +kernel
theorem eX8_leads_29 : mn_dec cX8_leads 29 = some ([], .getfield 10) := by decide +kernel
theorem eX8_leads_32 : mn_dec cX8_leads 32 = some ([], .invokevirtual 158) := by decide +kernel
theorem eX8_leads_35 : mn_dec cX8_leads 35 = some ([], .aload_n 0) := by decide +kernel
theorem eX8_leads_36 : mn_dec cX8_leads 36 = some ([], .getfield 26) := by decide +kernel
theorem eX8_leads_39 : mn_dec cX8_leads 39 = some ([], .iload_n 1) := by decide +kernel
theorem eX8_leads_40 : mn_dec cX8_leads 40 = some ([], .iload_n 2) := by decide +kernel
theorem eX8_leads_41 : mn_dec cX8_leads 41 = some ([], .invokevirtual 161) := by decide +kernel
theorem eX8_leads_44 : mn_dec cX8_leads 44 = some ([51], .ifCond .eq 7) := by decide +kernel
theorem eX8_leads_47 : mn_dec cX8_leads 47 = some ([], .iconst 1) := by decide +kernel
theorem eX8_leads_48 : mn_dec cX8_leads 48 = some ([52], .goto 4) := by decide +kernel
theorem eX8_leads_51 : mn_dec cX8_leads 51 = some ([], .iconst 0) := by decide +kernel
theorem eX8_leads_52 : mn_dec cX8_leads 52 = some ([], .ireturn) := by decide +kernel
theorem eX8_share_0 : mn_dec cX8_share 0 = some ([], .aload_n 0) := by decide +kernel
theorem eX8_share_1 : mn_dec cX8_share 1 = some ([], .getfield 10) := by decide +kernel
theorem eX8_share_4 : mn_dec cX8_share 4 = some ([], .iload_n 1) := by decide +kernel
theorem eX8_share_5 : mn_dec cX8_share 5 = some ([], .invokevirtual 66) := by decide +kernel
theorem eX8_share_8 : mn_dec cX8_share 8 = some ([15], .ifCond .ne 7) := by decide +kernel
theorem eX8_share_11 : mn_dec cX8_share 11 = some ([], .ldc2_w 165) := by decide +kernel
theorem eX8_share_14 : mn_dec cX8_share 14 = some ([], .lreturn) := by decide +kernel
theorem eX8_share_15 : mn_dec cX8_share 15 = some ([], .iload_n 2) := by decide +kernel
theorem eX8_share_16 : mn_dec cX8_share 16 = some ([], .iconst 0) := by decide +kernel
theorem eX8_share_17 : mn_dec cX8_share 17 = some ([], .iconst 1) := by decide +kernel
theorem eX8_share_18 : mn_dec cX8_share 18 = some ([], .invokestatic 83) := by decide +kernel
theorem eX8_share_21 : mn_dec cX8_share 21 = some ([28], .ifCond .ne 7) := by decide +kernel
theorem eX8_share_24 : mn_dec cX8_share 24 = some ([], .ldc2_w 167) := by decide +kernel
theorem eX8_share_27 : mn_dec cX8_share 27 = some ([], .lreturn) := by decide +kernel
theorem eX8_share_28 : mn_dec cX8_share 28 = some ([], .aload_n 0) := by decide +kernel
theorem eX8_share_29 : mn_dec cX8_share 29 = some ([], .getfield 40) := by decide +kernel
theorem eX8_share_32 : mn_dec cX8_share 32 = some ([], .aload_n 0) := by decide +kernel
theorem eX8_share_33 : mn_dec cX8_share 33 = some ([], .getfield 10) := by decide +kernel
theorem eX8_share_36 : mn_dec cX8_share 36 = some ([], .aload_n 0) := by decide +kernel
theorem eX8_share_37 : mn_dec cX8_share 37 = some ([], .getfield 26) := by decide +kernel
theorem eX8_share_40 : mn_dec cX8_share 40 = some ([], .invokevirtual 169) := by decide +kernel
theorem eX8_share_43 : mn_dec cX8_share 43 = some ([50], .ifCond .ne 7) := by decide +kernel
theorem eX8_share_46 : mn_dec cX8_share 46 = some ([], .ldc2_w 173) := by decide +kernel
theorem eX8_share_49 : mn_dec cX8_share 49 = some ([], .lreturn) := by decide +kernel
theorem eX8_share_50 : mn_dec cX8_share 50 = some ([], .aload_n 0) := by decide +kernel
theorem eX8_share_51 : mn_dec cX8_share 51 = some ([], .getfield 40) := by decide +kernel
theorem eX8_share_54 : mn_dec cX8_share 54 = some ([], .aload_n 0) := by decide +kernel
theorem eX8_share_55 : mn_dec cX8_share 55 = some ([], .getfield 10) := by decide +kernel
theorem eX8_share_58 : mn_dec cX8_share 58 = some ([], .invokevirtual 175) := by decide +kernel
theorem eX8_share_61 : mn_dec cX8_share 61 = some ([], .aload_n 0) := by decide +kernel
theorem eX8_share_62 : mn_dec cX8_share 62 = some ([], .getfield 40) := by decide +kernel
theorem eX8_share_65 : mn_dec cX8_share 65 = some ([], .iload_n 1) := by decide +kernel
theorem eX8_share_66 : mn_dec cX8_share 66 = some ([], .invokevirtual 178) := by decide +kernel
theorem eX8_share_69 : mn_dec cX8_share 69 = some ([], .aload_n 0) := by decide +kernel
theorem eX8_share_70 : mn_dec cX8_share 70 = some ([], .getfield 40) := by decide +kernel
theorem eX8_share_73 : mn_dec cX8_share 73 = some ([], .invokevirtual 182) := by decide +kernel
theorem eX8_share_76 : mn_dec cX8_share 76 = some ([], .iload_n 2) := by decide +kernel
theorem eX8_share_77 : mn_dec cX8_share 77 = some ([], .invokestatic 186) := by decide +kernel
theorem eX8_share_80 : mn_dec cX8_share 80 = some ([], .lreturn) := by decide +kernel
theorem eX8_end_0 : mn_dec cX8_end 0 = some ([], .iload_n 1) := by decide +kernel
theorem eX8_end_1 : mn_dec cX8_end 1 = some ([], .iconst 0) := by decide +kernel
theorem eX8_end_2 : mn_dec cX8_end 2 = some ([], .iconst 1) := by decide +kernel
theorem eX8_end_3 : mn_dec cX8_end 3 = some ([], .invokestatic 83) := by decide +kernel
theorem eX8_end_6 : mn_dec cX8_end 6 = some ([13], .ifCond .ne 7) := by decide +kernel
theorem eX8_end_9 : mn_dec cX8_end 9 = some ([], .ldc2_w 167) := by decide +kernel
theorem eX8_end_12 : mn_dec cX8_end 12 = some ([], .lreturn) := by decide +kernel
theorem eX8_end_13 : mn_dec cX8_end 13 = some ([], .aload_n 0) := by decide +kernel
theorem eX8_end_14 : mn_dec cX8_end 14 = some ([], .getfield 40) := by decide +kernel
theorem eX8_end_17 : mn_dec cX8_end 17 = some ([], .aload_n 0) := by decide +kernel
theorem eX8_end_18 : mn_dec cX8_end 18 = some ([], .getfield 10) := by decide +kernel
theorem eX8_end_21 : mn_dec cX8_end 21 = some ([], .aload_n 0) := by decide +kernel
theorem eX8_end_22 : mn_dec cX8_end 22 = some ([], .getfield 26) := by decide +kernel
theorem eX8_end_25 : mn_dec cX8_end 25 = some ([], .invokevirtual 169) := by decide +kernel
theorem eX8_end_28 : mn_dec cX8_end 28 = some ([35], .ifCond .ne 7) := by decide +kernel
theorem eX8_end_31 : mn_dec cX8_end 31 = some ([], .ldc2_w 173) := by decide +kernel
theorem eX8_end_34 : mn_dec cX8_end 34 = some ([], .lreturn) := by decide +kernel
theorem eX8_end_35 : mn_dec cX8_end 35 = some ([], .aload_n 0) := by decide +kernel
theorem eX8_end_36 : mn_dec cX8_end 36 = some ([], .getfield 40) := by decide +kernel
theorem eX8_end_39 : mn_dec cX8_end 39 = some ([], .aload_n 0) := by decide +kernel
theorem eX8_end_40 : mn_dec cX8_end 40 = some ([], .getfield 10) := by decide +kernel
theorem eX8_end_43 : mn_dec cX8_end 43 = some ([], .invokevirtual 175) := by decide +kernel
theorem eX8_end_46 : mn_dec cX8_end 46 = some ([], .aload_n 0) := by decide +kernel
theorem eX8_end_47 : mn_dec cX8_end 47 = some ([], .getfield 40) := by decide +kernel
theorem eX8_end_50 : mn_dec cX8_end 50 = some ([], .aload_n 0) := by decide +kernel
theorem eX8_end_51 : mn_dec cX8_end 51 = some ([], .getfield 10) := by decide +kernel
theorem eX8_end_54 : mn_dec cX8_end 54 = some ([], .invokevirtual 190) := by decide +kernel
theorem eX8_end_57 : mn_dec cX8_end 57 = some ([], .aload_n 0) := by decide +kernel
theorem eX8_end_58 : mn_dec cX8_end 58 = some ([], .getfield 40) := by decide +kernel
theorem eX8_end_61 : mn_dec cX8_end 61 = some ([], .invokevirtual 182) := by decide +kernel
theorem eX8_end_64 : mn_dec cX8_end 64 = some ([], .iload_n 1) := by decide +kernel
theorem eX8_end_65 : mn_dec cX8_end 65 = some ([], .invokestatic 186) := by decide +kernel
theorem eX8_end_68 : mn_dec cX8_end 68 = some ([], .lreturn) := by decide +kernel
theorem eX8_rest_0 : mn_dec cX8_rest 0 = some ([], .aload_n 0) := by decide +kernel
theorem eX8_rest_1 : mn_dec cX8_rest 1 = some ([], .getfield 10) := by decide +kernel
theorem eX8_rest_4 : mn_dec cX8_rest 4 = some ([], .iload_n 1) := by decide +kernel
theorem eX8_rest_5 : mn_dec cX8_rest 5 = some ([], .invokevirtual 66) := by decide +kernel
theorem eX8_rest_8 : mn_dec cX8_rest 8 = some ([15], .ifCond .ne 7) := by decide +kernel
theorem eX8_rest_11 : mn_dec cX8_rest 11 = some ([], .ldc2_w 165) := by decide +kernel
theorem eX8_rest_14 : mn_dec cX8_rest 14 = some ([], .lreturn) := by decide +kernel
theorem eX8_rest_15 : mn_dec cX8_rest 15 = some ([], .iload_n 2) := by decide +kernel
theorem eX8_rest_16 : mn_dec cX8_rest 16 = some ([], .iconst 0) := by decide +kernel
theorem eX8_rest_17 : mn_dec cX8_rest 17 = some ([], .iconst 1) := by decide +kernel
theorem eX8_rest_18 : mn_dec cX8_rest 18 = some ([], .invokestatic 83) := by decide +kernel
theorem eX8_rest_21 : mn_dec cX8_rest 21 = some ([28], .ifCond .ne 7) := by decide +kernel
theorem eX8_rest_24 : mn_dec cX8_rest 24 = some ([], .ldc2_w 167) := by decide +kernel
theorem eX8_rest_27 : mn_dec cX8_rest 27 = some ([], .lreturn) := by decide +kernel
theorem eX8_rest_28 : mn_dec cX8_rest 28 = some ([], .aload_n 0) := by decide +kernel
theorem eX8_rest_29 : mn_dec cX8_rest 29 = some ([], .getfield 47) := by decide +kernel
theorem eX8_rest_32 : mn_dec cX8_rest 32 = some ([], .aload_n 0) := by decide +kernel
theorem eX8_rest_33 : mn_dec cX8_rest 33 = some ([], .getfield 10) := by decide +kernel
theorem eX8_rest_36 : mn_dec cX8_rest 36 = some ([], .aload_n 0) := by decide +kernel
theorem eX8_rest_37 : mn_dec cX8_rest 37 = some ([], .getfield 26) := by decide +kernel
theorem eX8_rest_40 : mn_dec cX8_rest 40 = some ([], .invokevirtual 194) := by decide +kernel
theorem eX8_rest_43 : mn_dec cX8_rest 43 = some ([50], .ifCond .ne 7) := by decide +kernel
theorem eX8_rest_46 : mn_dec cX8_rest 46 = some ([], .ldc2_w 173) := by decide +kernel
theorem eX8_rest_49 : mn_dec cX8_rest 49 = some ([], .lreturn) := by decide +kernel
theorem eX8_rest_50 : mn_dec cX8_rest 50 = some ([], .aload_n 0) := by decide +kernel
theorem eX8_rest_51 : mn_dec cX8_rest 51 = some ([], .getfield 47) := by decide +kernel
theorem eX8_rest_54 : mn_dec cX8_rest 54 = some ([], .aload_n 0) := by decide +kernel
theorem eX8_rest_55 : mn_dec cX8_rest 55 = some ([], .getfield 10) := by decide +kernel
theorem eX8_rest_58 : mn_dec cX8_rest 58 = some ([], .invokevirtual 197) := by decide +kernel
theorem eX8_rest_61 : mn_dec cX8_rest 61 = some ([], .aload_n 0) := by decide +kernel
theorem eX8_rest_62 : mn_dec cX8_rest 62 = some ([], .getfield 47) := by decide +kernel
theorem eX8_rest_65 : mn_dec cX8_rest 65 = some ([], .iload_n 1) := by decide +kernel
theorem eX8_rest_66 : mn_dec cX8_rest 66 = some ([], .invokevirtual 198) := by decide +kernel
theorem eX8_rest_69 : mn_dec cX8_rest 69 = some ([], .aload_n 0) := by decide +kernel
theorem eX8_rest_70 : mn_dec cX8_rest 70 = some ([], .getfield 47) := by decide +kernel
theorem eX8_rest_73 : mn_dec cX8_rest 73 = some ([], .invokevirtual 201) := by decide +kernel
theorem eX8_rest_76 : mn_dec cX8_rest 76 = some ([], .iload_n 2) := by decide +kernel
theorem eX8_rest_77 : mn_dec cX8_rest 77 = some ([], .invokestatic 186) := by decide +kernel
theorem eX8_rest_80 : mn_dec cX8_rest 80 = some ([], .lreturn) := by decide +kernel
theorem eX8_pull_0 : mn_dec cX8_pull 0 = some ([], .iload_n 1) := by decide +kernel
theorem eX8_pull_1 : mn_dec cX8_pull 1 = some ([], .invokestatic 58) := by decide +kernel
theorem eX8_pull_4 : mn_dec cX8_pull 4 = some ([10], .ifCond .ne 6) := by decide +kernel
theorem eX8_pull_7 : mn_dec cX8_pull 7 = some ([], .bipush (-2)) := by decide +kernel
theorem eX8_pull_9 : mn_dec cX8_pull 9 = some ([], .ireturn) := by decide +kernel
theorem eX8_pull_10 : mn_dec cX8_pull 10 = some ([], .aload_n 0) := by decide +kernel
theorem eX8_pull_11 : mn_dec cX8_pull 11 = some ([], .getfield 47) := by decide +kernel
theorem eX8_pull_14 : mn_dec cX8_pull 14 = some ([], .aload_n 0) := by decide +kernel
theorem eX8_pull_15 : mn_dec cX8_pull 15 = some ([], .getfield 10) := by decide +kernel
theorem eX8_pull_18 : mn_dec cX8_pull 18 = some ([], .aload_n 0) := by decide +kernel
theorem eX8_pull_19 : mn_dec cX8_pull 19 = some ([], .getfield 26) := by decide +kernel
theorem eX8_pull_22 : mn_dec cX8_pull 22 = some ([], .invokevirtual 194) := by decide +kernel
theorem eX8_pull_25 : mn_dec cX8_pull 25 = some ([39], .ifCond .eq 14) := by decide +kernel
theorem eX8_pull_28 : mn_dec cX8_pull 28 = some ([], .aload_n 0) := by decide +kernel
theorem eX8_pull_29 : mn_dec cX8_pull 29 = some ([], .getfield 10) := by decide +kernel
theorem eX8_pull_32 : mn_dec cX8_pull 32 = some ([], .invokevirtual 204) := by decide +kernel
theorem eX8_pull_35 : mn_dec cX8_pull 35 = some ([], .iconst 2) := by decide +kernel
theorem eX8_pull_36 : mn_dec cX8_pull 36 = some ([42], .if_icmp .ge 6) := by decide +kernel
theorem eX8_pull_39 : mn_dec cX8_pull 39 = some ([], .bipush (-5)) := by decide +kernel
theorem eX8_pull_41 : mn_dec cX8_pull 41 = some ([], .ireturn) := by decide +kernel
theorem eX8_pull_42 : mn_dec cX8_pull 42 = some ([], .bipush (-5)) := by decide +kernel
theorem eX8_pull_44 : mn_dec cX8_pull 44 = some ([], .istore_n 2) := by decide +kernel
theorem eX8_pull_45 : mn_dec cX8_pull 45 = some ([], .lconst 0) := by decide +kernel
theorem eX8_pull_46 : mn_dec cX8_pull 46 = some ([], .lstore_n 3) := by decide +kernel
theorem eX8_pull_47 : mn_dec cX8_pull 47 = some ([], .lconst 1) := by decide +kernel
theorem eX8_pull_48 : mn_dec cX8_pull 48 = some ([], .lstore 5) := by decide +kernel
theorem eX8_pull_50 : mn_dec cX8_pull 50 = some ([], .iconst 0) := by decide +kernel
theorem eX8_pull_51 : mn_dec cX8_pull 51 = some ([], .istore 7) := by decide +kernel
theorem eX8_pull_53 : mn_dec cX8_pull 53 = some ([], .iload 7) := by decide +kernel
theorem eX8_pull_55 : mn_dec cX8_pull 55 = some ([], .aload_n 0) := by decide +kernel
theorem eX8_pull_56 : mn_dec cX8_pull 56 = some ([], .getfield 10) := by decide +kernel
theorem eX8_pull_59 : mn_dec cX8_pull 59 = some ([], .invokevirtual 124) := by decide +kernel
theorem eX8_pull_62 : mn_dec cX8_pull 62 = some ([145], .if_icmp .ge 83) := by decide +kernel
theorem eX8_pull_65 : mn_dec cX8_pull 65 = some ([], .aload_n 0) := by decide +kernel
theorem eX8_pull_66 : mn_dec cX8_pull 66 = some ([], .getfield 10) := by decide +kernel
theorem eX8_pull_69 : mn_dec cX8_pull 69 = some ([], .iload 7) := by decide +kernel
theorem eX8_pull_71 : mn_dec cX8_pull 71 = some ([], .invokevirtual 76) := by decide +kernel
theorem eX8_pull_74 : mn_dec cX8_pull 74 = some ([80], .ifCond .eq 6) := by decide +kernel
theorem eX8_pull_77 : mn_dec cX8_pull 77 = some ([139], .goto 62) := by decide +kernel
theorem eX8_pull_80 : mn_dec cX8_pull 80 = some ([], .aload_n 0) := by decide +kernel
theorem eX8_pull_81 : mn_dec cX8_pull 81 = some ([], .iload 7) := by decide +kernel
theorem eX8_pull_83 : mn_dec cX8_pull 83 = some ([], .iload_n 1) := by decide +kernel
theorem eX8_pull_84 : mn_dec cX8_pull 84 = some ([], .invokevirtual 207) := by decide +kernel
theorem eX8_pull_87 : mn_dec cX8_pull 87 = some ([], .aload_n 0) := by decide +kernel
theorem eX8_pull_88 : mn_dec cX8_pull 88 = some ([], .getfield 47) := by decide +kernel
theorem eX8_pull_91 : mn_dec cX8_pull 91 = some ([], .aload_n 0) := by decide +kernel
theorem eX8_pull_92 : mn_dec cX8_pull 92 = some ([], .getfield 10) := by decide +kernel
theorem eX8_pull_95 : mn_dec cX8_pull 95 = some ([], .invokevirtual 210) := by decide +kernel
theorem eX8_pull_98 : mn_dec cX8_pull 98 = some ([], .lstore 8) := by decide +kernel
theorem eX8_pull_100 : mn_dec cX8_pull 100 = some ([], .iload_n 2) := by decide +kernel
theorem eX8_pull_101 : mn_dec cX8_pull 101 = some ([], .bipush (-5)) := by decide +kernel
theorem eX8_pull_103 : mn_dec cX8_pull 103 = some ([124], .if_icmp .eq 21) := by decide +kernel
theorem eX8_pull_106 : mn_dec cX8_pull 106 = some ([], .lload 8) := by decide +kernel
theorem eX8_pull_108 : mn_dec cX8_pull 108 = some ([], .aload_n 0) := by decide +kernel
theorem eX8_pull_109 : mn_dec cX8_pull 109 = some ([], .getfield 47) := by decide +kernel
theorem eX8_pull_112 : mn_dec cX8_pull 112 = some ([], .invokevirtual 201) := by decide +kernel
theorem eX8_pull_115 : mn_dec cX8_pull 115 = some ([], .lload_n 3) := by decide +kernel
theorem eX8_pull_116 : mn_dec cX8_pull 116 = some ([], .lload 5) := by decide +kernel
theorem eX8_pull_118 : mn_dec cX8_pull 118 = some ([], .invokestatic 213) := by decide +kernel
theorem eX8_pull_121 : mn_dec cX8_pull 121 = some ([139], .ifCond .le 18) := by decide +kernel
theorem eX8_pull_124 : mn_dec cX8_pull 124 = some ([], .iload 7) := by decide +kernel
theorem eX8_pull_126 : mn_dec cX8_pull 126 = some ([], .istore_n 2) := by decide +kernel
theorem eX8_pull_127 : mn_dec cX8_pull 127 = some ([], .lload 8) := by decide +kernel
theorem eX8_pull_129 : mn_dec cX8_pull 129 = some ([], .lstore_n 3) := by decide +kernel
theorem eX8_pull_130 : mn_dec cX8_pull 130 = some ([], .aload_n 0) := by decide +kernel
theorem eX8_pull_131 : mn_dec cX8_pull 131 = some ([], .getfield 47) := by decide +kernel
theorem eX8_pull_134 : mn_dec cX8_pull 134 = some ([], .invokevirtual 201) := by decide +kernel
theorem eX8_pull_137 : mn_dec cX8_pull 137 = some ([], .lstore 5) := by decide +kernel
theorem eX8_pull_139 : mn_dec cX8_pull 139 = some ([], .iinc 7 1) := by decide +kernel
theorem eX8_pull_142 : mn_dec cX8_pull 142 = some ([53], .goto (-89)) := by decide +kernel
theorem eX8_pull_145 : mn_dec cX8_pull 145 = some ([], .iload_n 2) := by decide +kernel
theorem eX8_pull_146 : mn_dec cX8_pull 146 = some ([], .ireturn) := by decide +kernel
theorem eX8_talk_0 : mn_dec cX8_talk 0 = some ([], .aload_n 0) := by decide +kernel
theorem eX8_talk_1 : mn_dec cX8_talk 1 = some ([], .getfield 10) := by decide +kernel
theorem eX8_talk_4 : mn_dec cX8_talk 4 = some ([], .iload_n 1) := by decide +kernel
theorem eX8_talk_5 : mn_dec cX8_talk 5 = some ([], .invokevirtual 66) := by decide +kernel
theorem eX8_talk_8 : mn_dec cX8_talk 8 = some ([27], .ifCond .eq 19) := by decide +kernel
theorem eX8_talk_11 : mn_dec cX8_talk 11 = some ([], .aload_n 0) := by decide +kernel
theorem eX8_talk_12 : mn_dec cX8_talk 12 = some ([], .getfield 10) := by decide +kernel
theorem eX8_talk_15 : mn_dec cX8_talk 15 = some ([], .iload_n 2) := by decide +kernel
theorem eX8_talk_16 : mn_dec cX8_talk 16 = some ([], .invokevirtual 66) := by decide +kernel
theorem eX8_talk_19 : mn_dec cX8_talk 19 = some ([27], .ifCond .eq 8) := by decide +kernel
theorem eX8_talk_22 : mn_dec cX8_talk 22 = some ([], .iload_n 1) := by decide +kernel
theorem eX8_talk_23 : mn_dec cX8_talk 23 = some ([], .iload_n 2) := by decide +kernel
theorem eX8_talk_24 : mn_dec cX8_talk 24 = some ([29], .if_icmp .ne 5) := by decide +kernel
theorem eX8_talk_27 : mn_dec cX8_talk 27 = some ([], .iconst (-1)) := by decide +kernel
theorem eX8_talk_28 : mn_dec cX8_talk 28 = some ([], .ireturn) := by decide +kernel
theorem eX8_talk_29 : mn_dec cX8_talk 29 = some ([], .aload_n 0) := by decide +kernel
theorem eX8_talk_30 : mn_dec cX8_talk 30 = some ([], .getfield 10) := by decide +kernel
theorem eX8_talk_33 : mn_dec cX8_talk 33 = some ([], .iload_n 1) := by decide +kernel
theorem eX8_talk_34 : mn_dec cX8_talk 34 = some ([], .invokevirtual 69) := by decide +kernel
theorem eX8_talk_37 : mn_dec cX8_talk 37 = some ([], .istore_n 3) := by decide +kernel
theorem eX8_talk_38 : mn_dec cX8_talk 38 = some ([], .aload_n 0) := by decide +kernel
theorem eX8_talk_39 : mn_dec cX8_talk 39 = some ([], .getfield 10) := by decide +kernel
theorem eX8_talk_42 : mn_dec cX8_talk 42 = some ([], .iload_n 2) := by decide +kernel
theorem eX8_talk_43 : mn_dec cX8_talk 43 = some ([], .invokevirtual 69) := by decide +kernel
theorem eX8_talk_46 : mn_dec cX8_talk 46 = some ([], .istore 4) := by decide +kernel
theorem eX8_talk_48 : mn_dec cX8_talk 48 = some ([], .iload_n 3) := by decide +kernel
theorem eX8_talk_49 : mn_dec cX8_talk 49 = some ([], .iload 4) := by decide +kernel
theorem eX8_talk_51 : mn_dec cX8_talk 51 = some ([], .iadd) := by decide +kernel
theorem eX8_talk_52 : mn_dec cX8_talk 52 = some ([], .istore 5) := by decide +kernel
theorem eX8_talk_54 : mn_dec cX8_talk 54 = some ([], .iload_n 3) := by decide +kernel
theorem eX8_talk_55 : mn_dec cX8_talk 55 = some ([], .iload 4) := by decide +kernel
theorem eX8_talk_57 : mn_dec cX8_talk 57 = some ([64], .if_icmp .gt 7) := by decide +kernel
theorem eX8_talk_60 : mn_dec cX8_talk 60 = some ([], .iconst 1) := by decide +kernel
theorem eX8_talk_61 : mn_dec cX8_talk 61 = some ([65], .goto 4) := by decide +kernel
theorem eX8_talk_64 : mn_dec cX8_talk 64 = some ([], .iconst 0) := by decide +kernel
theorem eX8_talk_65 : mn_dec cX8_talk 65 = some ([], .istore 6) := by decide +kernel
theorem eX8_talk_67 : mn_dec cX8_talk 67 = some ([], .aload_n 0) := by decide +kernel
theorem eX8_talk_68 : mn_dec cX8_talk 68 = some ([], .getfield 10) := by decide +kernel
theorem eX8_talk_71 : mn_dec cX8_talk 71 = some ([], .iload_n 1) := by decide +kernel
theorem eX8_talk_72 : mn_dec cX8_talk 72 = some ([], .iload 6) := by decide +kernel
theorem eX8_talk_74 : mn_dec cX8_talk 74 = some ([84], .ifCond .eq 10) := by decide +kernel
theorem eX8_talk_77 : mn_dec cX8_talk 77 = some ([], .iload 5) := by decide +kernel
theorem eX8_talk_79 : mn_dec cX8_talk 79 = some ([], .iconst 2) := by decide +kernel
theorem eX8_talk_80 : mn_dec cX8_talk 80 = some ([], .idiv) := by decide +kernel
theorem eX8_talk_81 : mn_dec cX8_talk 81 = some ([91], .goto 10) := by decide +kernel
theorem eX8_talk_84 : mn_dec cX8_talk 84 = some ([], .iload 5) := by decide +kernel
theorem eX8_talk_86 : mn_dec cX8_talk 86 = some ([], .iload 5) := by decide +kernel
theorem eX8_talk_88 : mn_dec cX8_talk 88 = some ([], .iconst 2) := by decide +kernel
theorem eX8_talk_89 : mn_dec cX8_talk 89 = some ([], .idiv) := by decide +kernel
theorem eX8_talk_90 : mn_dec cX8_talk 90 = some ([], .isub) := by decide +kernel
theorem eX8_talk_91 : mn_dec cX8_talk 91 = some ([], .invokevirtual 72) := by decide +kernel
theorem eX8_talk_94 : mn_dec cX8_talk 94 = some ([], .aload_n 0) := by decide +kernel
theorem eX8_talk_95 : mn_dec cX8_talk 95 = some ([], .getfield 10) := by decide +kernel
theorem eX8_talk_98 : mn_dec cX8_talk 98 = some ([], .iload_n 2) := by decide +kernel
theorem eX8_talk_99 : mn_dec cX8_talk 99 = some ([], .iload 6) := by decide +kernel
theorem eX8_talk_101 : mn_dec cX8_talk 101 = some ([114], .ifCond .eq 13) := by decide +kernel
theorem eX8_talk_104 : mn_dec cX8_talk 104 = some ([], .iload 5) := by decide +kernel
theorem eX8_talk_106 : mn_dec cX8_talk 106 = some ([], .iload 5) := by decide +kernel
theorem eX8_talk_108 : mn_dec cX8_talk 108 = some ([], .iconst 2) := by decide +kernel
theorem eX8_talk_109 : mn_dec cX8_talk 109 = some ([], .idiv) := by decide +kernel
theorem eX8_talk_110 : mn_dec cX8_talk 110 = some ([], .isub) := by decide +kernel
theorem eX8_talk_111 : mn_dec cX8_talk 111 = some ([118], .goto 7) := by decide +kernel
theorem eX8_talk_114 : mn_dec cX8_talk 114 = some ([], .iload 5) := by decide +kernel
theorem eX8_talk_116 : mn_dec cX8_talk 116 = some ([], .iconst 2) := by decide +kernel
theorem eX8_talk_117 : mn_dec cX8_talk 117 = some ([], .idiv) := by decide +kernel
theorem eX8_talk_118 : mn_dec cX8_talk 118 = some ([], .invokevirtual 72) := by decide +kernel
theorem eX8_talk_121 : mn_dec cX8_talk 121 = some ([], .iload_n 3) := by decide +kernel
theorem eX8_talk_122 : mn_dec cX8_talk 122 = some ([], .iload 4) := by decide +kernel
theorem eX8_talk_124 : mn_dec cX8_talk 124 = some ([], .isub) := by decide +kernel
theorem eX8_talk_125 : mn_dec cX8_talk 125 = some ([], .invokestatic 217) := by decide +kernel
theorem eX8_talk_128 : mn_dec cX8_talk 128 = some ([], .ireturn) := by decide +kernel
theorem eX8_fewest_0 : mn_dec cX8_fewest 0 = some ([], .iload_n 1) := by decide +kernel
theorem eX8_fewest_1 : mn_dec cX8_fewest 1 = some ([], .iconst 2) := by decide +kernel
theorem eX8_fewest_2 : mn_dec cX8_fewest 2 = some ([], .iconst 4) := by decide +kernel
theorem eX8_fewest_3 : mn_dec cX8_fewest 3 = some ([], .invokestatic 83) := by decide +kernel
theorem eX8_fewest_6 : mn_dec cX8_fewest 6 = some ([16], .ifCond .eq 10) := by decide +kernel
theorem eX8_fewest_9 : mn_dec cX8_fewest 9 = some ([], .iload_n 2) := by decide +kernel
theorem eX8_fewest_10 : mn_dec cX8_fewest 10 = some ([], .invokestatic 58) := by decide +kernel
theorem eX8_fewest_13 : mn_dec cX8_fewest 13 = some ([19], .ifCond .ne 6) := by decide +kernel
theorem eX8_fewest_16 : mn_dec cX8_fewest 16 = some ([], .bipush (-2)) := by decide +kernel
theorem eX8_fewest_18 : mn_dec cX8_fewest 18 = some ([], .ireturn) := by decide +kernel
theorem eX8_fewest_19 : mn_dec cX8_fewest 19 = some ([], .aload_n 0) := by decide +kernel
theorem eX8_fewest_20 : mn_dec cX8_fewest 20 = some ([], .getfield 10) := by decide +kernel
theorem eX8_fewest_23 : mn_dec cX8_fewest 23 = some ([], .invokevirtual 124) := by decide +kernel
theorem eX8_fewest_26 : mn_dec cX8_fewest 26 = some ([], .iload_n 1) := by decide +kernel
theorem eX8_fewest_27 : mn_dec cX8_fewest 27 = some ([32], .if_icmp .ge 5) := by decide +kernel
theorem eX8_fewest_30 : mn_dec cX8_fewest 30 = some ([], .iconst (-1)) := by decide +kernel
theorem eX8_fewest_31 : mn_dec cX8_fewest 31 = some ([], .ireturn) := by decide +kernel
theorem eX8_fewest_32 : mn_dec cX8_fewest 32 = some ([], .aload_n 0) := by decide +kernel
theorem eX8_fewest_33 : mn_dec cX8_fewest 33 = some ([], .getfield 54) := by decide +kernel
theorem eX8_fewest_36 : mn_dec cX8_fewest 36 = some ([], .aload_n 0) := by decide +kernel
theorem eX8_fewest_37 : mn_dec cX8_fewest 37 = some ([], .getfield 10) := by decide +kernel
theorem eX8_fewest_40 : mn_dec cX8_fewest 40 = some ([], .iload_n 1) := by decide +kernel
theorem eX8_fewest_41 : mn_dec cX8_fewest 41 = some ([], .iload_n 2) := by decide +kernel
theorem eX8_fewest_42 : mn_dec cX8_fewest 42 = some ([], .invokevirtual 222) := by decide +kernel
theorem eX8_fewest_45 : mn_dec cX8_fewest 45 = some ([], .ireturn) := by decide +kernel
theorem eX8_found_0 : mn_dec cX8_found 0 = some ([], .aload_n 0) := by decide +kernel
theorem eX8_found_1 : mn_dec cX8_found 1 = some ([], .getfield 54) := by decide +kernel
theorem eX8_found_4 : mn_dec cX8_found 4 = some ([], .invokevirtual 226) := by decide +kernel
theorem eX8_found_7 : mn_dec cX8_found 7 = some ([], .ireturn) := by decide +kernel
theorem eX8_isFrom_0 : mn_dec cX8_isFrom 0 = some ([], .iload_n 0) := by decide +kernel
theorem eX8_isFrom_1 : mn_dec cX8_isFrom 1 = some ([], .iload_n 1) := by decide +kernel
theorem eX8_isFrom_2 : mn_dec cX8_isFrom 2 = some ([14], .if_icmp .lt 12) := by decide +kernel
theorem eX8_isFrom_5 : mn_dec cX8_isFrom 5 = some ([], .iload_n 0) := by decide +kernel
theorem eX8_isFrom_6 : mn_dec cX8_isFrom 6 = some ([], .iload_n 2) := by decide +kernel
theorem eX8_isFrom_7 : mn_dec cX8_isFrom 7 = some ([14], .if_icmp .gt 7) := by decide +kernel
theorem eX8_isFrom_10 : mn_dec cX8_isFrom 10 = some ([], .iconst 1) := by decide +kernel
theorem eX8_isFrom_11 : mn_dec cX8_isFrom 11 = some ([15], .goto 4) := by decide +kernel
theorem eX8_isFrom_14 : mn_dec cX8_isFrom 14 = some ([], .iconst 0) := by decide +kernel
theorem eX8_isFrom_15 : mn_dec cX8_isFrom 15 = some ([], .ireturn) := by decide +kernel
theorem eX8_isThought_0 : mn_dec cX8_isThought 0 = some ([], .iload_n 0) := by decide +kernel
theorem eX8_isThought_1 : mn_dec cX8_isThought 1 = some ([], .iconst 0) := by decide +kernel
theorem eX8_isThought_2 : mn_dec cX8_isThought 2 = some ([], .sipush 1000) := by decide +kernel
theorem eX8_isThought_5 : mn_dec cX8_isThought 5 = some ([], .invokestatic 83) := by decide +kernel
theorem eX8_isThought_8 : mn_dec cX8_isThought 8 = some ([], .ireturn) := by decide +kernel
theorem eX8_countGroups_0 : mn_dec cX8_countGroups 0 = some ([], .aload_n 0) := by decide +kernel
theorem eX8_countGroups_1 : mn_dec cX8_countGroups 1 = some ([], .getfield 26) := by decide +kernel
theorem eX8_countGroups_4 : mn_dec cX8_countGroups 4 = some ([], .aload_n 0) := by decide +kernel
theorem eX8_countGroups_5 : mn_dec cX8_countGroups 5 = some ([], .getfield 10) := by decide +kernel
theorem eX8_countGroups_8 : mn_dec cX8_countGroups 8 = some ([], .invokevirtual 114) := by decide +kernel
theorem eX8_countGroups_11 : mn_dec cX8_countGroups 11 = some ([], .aload_n 0) := by decide +kernel
theorem eX8_countGroups_12 : mn_dec cX8_countGroups 12 = some ([], .getfield 26) := by decide +kernel
theorem eX8_countGroups_15 : mn_dec cX8_countGroups 15 = some ([], .aload_n 0) := by decide +kernel
theorem eX8_countGroups_16 : mn_dec cX8_countGroups 16 = some ([], .getfield 10) := by decide +kernel
theorem eX8_countGroups_19 : mn_dec cX8_countGroups 19 = some ([], .invokevirtual 124) := by decide +kernel
theorem eX8_countGroups_22 : mn_dec cX8_countGroups 22 = some ([], .invokevirtual 121) := by decide +kernel
theorem eX8_countGroups_25 : mn_dec cX8_countGroups 25 = some ([], .ireturn) := by decide +kernel
theorem eX8_workAsIfHeld_0 : mn_dec cX8_workAsIfHeld 0 = some ([], .aload_n 0) := by decide +kernel
theorem eX8_workAsIfHeld_1 : mn_dec cX8_workAsIfHeld 1 = some ([], .getfield 10) := by decide +kernel
theorem eX8_workAsIfHeld_4 : mn_dec cX8_workAsIfHeld 4 = some ([], .iload_n 1) := by decide +kernel
theorem eX8_workAsIfHeld_5 : mn_dec cX8_workAsIfHeld 5 = some ([], .invokevirtual 69) := by decide +kernel
theorem eX8_workAsIfHeld_8 : mn_dec cX8_workAsIfHeld 8 = some ([], .istore_n 3) := by decide +kernel
theorem eX8_workAsIfHeld_9 : mn_dec cX8_workAsIfHeld 9 = some ([], .aload_n 0) := by decide +kernel
theorem eX8_workAsIfHeld_10 : mn_dec cX8_workAsIfHeld 10 = some ([], .getfield 10) := by decide +kernel
theorem eX8_workAsIfHeld_13 : mn_dec cX8_workAsIfHeld 13 = some ([], .iload_n 1) := by decide +kernel
theorem eX8_workAsIfHeld_14 : mn_dec cX8_workAsIfHeld 14 = some ([], .iload_n 2) := by decide +kernel
theorem eX8_workAsIfHeld_15 : mn_dec cX8_workAsIfHeld 15 = some ([], .invokevirtual 72) := by decide +kernel
theorem eX8_workAsIfHeld_18 : mn_dec cX8_workAsIfHeld 18 = some ([], .aload_n 0) := by decide +kernel
theorem eX8_workAsIfHeld_19 : mn_dec cX8_workAsIfHeld 19 = some ([], .getfield 10) := by decide +kernel
theorem eX8_workAsIfHeld_22 : mn_dec cX8_workAsIfHeld 22 = some ([], .iload_n 1) := by decide +kernel
theorem eX8_workAsIfHeld_23 : mn_dec cX8_workAsIfHeld 23 = some ([], .iconst 1) := by decide +kernel
theorem eX8_workAsIfHeld_24 : mn_dec cX8_workAsIfHeld 24 = some ([], .invokevirtual 79) := by decide +kernel
theorem eX8_workAsIfHeld_27 : mn_dec cX8_workAsIfHeld 27 = some ([], .aload_n 0) := by decide +kernel
theorem eX8_workAsIfHeld_28 : mn_dec cX8_workAsIfHeld 28 = some ([], .getfield 47) := by decide +kernel
theorem eX8_workAsIfHeld_31 : mn_dec cX8_workAsIfHeld 31 = some ([], .aload_n 0) := by decide +kernel
theorem eX8_workAsIfHeld_32 : mn_dec cX8_workAsIfHeld 32 = some ([], .getfield 10) := by decide +kernel
theorem eX8_workAsIfHeld_35 : mn_dec cX8_workAsIfHeld 35 = some ([], .invokevirtual 197) := by decide +kernel
theorem eX8_workAsIfHeld_38 : mn_dec cX8_workAsIfHeld 38 = some ([], .aload_n 0) := by decide +kernel
theorem eX8_workAsIfHeld_39 : mn_dec cX8_workAsIfHeld 39 = some ([], .getfield 10) := by decide +kernel
theorem eX8_workAsIfHeld_42 : mn_dec cX8_workAsIfHeld 42 = some ([], .iload_n 1) := by decide +kernel
theorem eX8_workAsIfHeld_43 : mn_dec cX8_workAsIfHeld 43 = some ([], .iconst 0) := by decide +kernel
theorem eX8_workAsIfHeld_44 : mn_dec cX8_workAsIfHeld 44 = some ([], .invokevirtual 79) := by decide +kernel
theorem eX8_workAsIfHeld_47 : mn_dec cX8_workAsIfHeld 47 = some ([], .aload_n 0) := by decide +kernel
theorem eX8_workAsIfHeld_48 : mn_dec cX8_workAsIfHeld 48 = some ([], .getfield 10) := by decide +kernel
theorem eX8_workAsIfHeld_51 : mn_dec cX8_workAsIfHeld 51 = some ([], .iload_n 1) := by decide +kernel
theorem eX8_workAsIfHeld_52 : mn_dec cX8_workAsIfHeld 52 = some ([], .iload_n 3) := by decide +kernel
theorem eX8_workAsIfHeld_53 : mn_dec cX8_workAsIfHeld 53 = some ([], .invokevirtual 72) := by decide +kernel
theorem eX8_workAsIfHeld_56 : mn_dec cX8_workAsIfHeld 56 = some ([], .return_) := by decide +kernel
theorem eX8_partOf_0 : mn_dec cX8_partOf 0 = some ([], .lload_n 0) := by decide +kernel
theorem eX8_partOf_1 : mn_dec cX8_partOf 1 = some ([], .lload_n 2) := by decide +kernel
theorem eX8_partOf_2 : mn_dec cX8_partOf 2 = some ([], .invokestatic 229) := by decide +kernel
theorem eX8_partOf_5 : mn_dec cX8_partOf 5 = some ([], .lstore 5) := by decide +kernel
theorem eX8_partOf_7 : mn_dec cX8_partOf 7 = some ([], .iload 4) := by decide +kernel
theorem eX8_partOf_9 : mn_dec cX8_partOf 9 = some ([16], .ifCond .ne 7) := by decide +kernel
theorem eX8_partOf_12 : mn_dec cX8_partOf 12 = some ([], .lload_n 0) := by decide +kernel
theorem eX8_partOf_13 : mn_dec cX8_partOf 13 = some ([17], .goto 4) := by decide +kernel
theorem eX8_partOf_16 : mn_dec cX8_partOf 16 = some ([], .lload_n 2) := by decide +kernel
theorem eX8_partOf_17 : mn_dec cX8_partOf 17 = some ([], .lstore 7) := by decide +kernel
theorem eX8_partOf_19 : mn_dec cX8_partOf 19 = some ([], .lload 5) := by decide +kernel
theorem eX8_partOf_21 : mn_dec cX8_partOf 21 = some ([], .lconst 0) := by decide +kernel
theorem eX8_partOf_22 : mn_dec cX8_partOf 22 = some ([], .lcmp) := by decide +kernel
theorem eX8_partOf_23 : mn_dec cX8_partOf 23 = some ([31], .ifCond .ne 8) := by decide +kernel
theorem eX8_partOf_26 : mn_dec cX8_partOf 26 = some ([], .lload 7) := by decide +kernel
theorem eX8_partOf_28 : mn_dec cX8_partOf 28 = some ([36], .goto 8) := by decide +kernel
theorem eX8_partOf_31 : mn_dec cX8_partOf 31 = some ([], .lload 7) := by decide +kernel
theorem eX8_partOf_33 : mn_dec cX8_partOf 33 = some ([], .lload 5) := by decide +kernel
theorem eX8_partOf_35 : mn_dec cX8_partOf 35 = some ([], .ldiv) := by decide +kernel
theorem eX8_partOf_36 : mn_dec cX8_partOf 36 = some ([], .lreturn) := by decide +kernel
theorem eX8_commonDivisor_0 : mn_dec cX8_commonDivisor 0 = some ([], .lload_n 0) := by decide +kernel
theorem eX8_commonDivisor_1 : mn_dec cX8_commonDivisor 1 = some ([], .lstore 4) := by decide +kernel
theorem eX8_commonDivisor_3 : mn_dec cX8_commonDivisor 3 = some ([], .lload_n 2) := by decide +kernel
theorem eX8_commonDivisor_4 : mn_dec cX8_commonDivisor 4 = some ([], .lstore 6) := by decide +kernel
theorem eX8_commonDivisor_6 : mn_dec cX8_commonDivisor 6 = some ([], .iconst 0) := by decide +kernel
theorem eX8_commonDivisor_7 : mn_dec cX8_commonDivisor 7 = some ([], .istore 8) := by decide +kernel
theorem eX8_commonDivisor_9 : mn_dec cX8_commonDivisor 9 = some ([], .iload 8) := by decide +kernel
theorem eX8_commonDivisor_11 : mn_dec cX8_commonDivisor 11 = some ([], .sipush 200) := by decide +kernel
theorem eX8_commonDivisor_14 : mn_dec cX8_commonDivisor 14 = some ([45], .if_icmp .ge 31) := by decide +kernel
theorem eX8_commonDivisor_17 : mn_dec cX8_commonDivisor 17 = some ([], .lload 6) := by decide +kernel
theorem eX8_commonDivisor_19 : mn_dec cX8_commonDivisor 19 = some ([], .lconst 0) := by decide +kernel
theorem eX8_commonDivisor_20 : mn_dec cX8_commonDivisor 20 = some ([], .lcmp) := by decide +kernel
theorem eX8_commonDivisor_21 : mn_dec cX8_commonDivisor 21 = some ([45], .ifCond .eq 24) := by decide +kernel
theorem eX8_commonDivisor_24 : mn_dec cX8_commonDivisor 24 = some ([], .lload 4) := by decide +kernel
theorem eX8_commonDivisor_26 : mn_dec cX8_commonDivisor 26 = some ([], .lload 6) := by decide +kernel
theorem eX8_commonDivisor_28 : mn_dec cX8_commonDivisor 28 = some ([], .lrem) := by decide +kernel
theorem eX8_commonDivisor_29 : mn_dec cX8_commonDivisor 29 = some ([], .lstore 9) := by decide +kernel
theorem eX8_commonDivisor_31 : mn_dec cX8_commonDivisor 31 = some ([], .lload 6) := by decide +kernel
theorem eX8_commonDivisor_33 : mn_dec cX8_commonDivisor 33 = some ([], .lstore 4) := by decide +kernel
theorem eX8_commonDivisor_35 : mn_dec cX8_commonDivisor 35 = some ([], .lload 9) := by decide +kernel
theorem eX8_commonDivisor_37 : mn_dec cX8_commonDivisor 37 = some ([], .lstore 6) := by decide +kernel
theorem eX8_commonDivisor_39 : mn_dec cX8_commonDivisor 39 = some ([], .iinc 8 1) := by decide +kernel
theorem eX8_commonDivisor_42 : mn_dec cX8_commonDivisor 42 = some ([9], .goto (-33)) := by decide +kernel
theorem eX8_commonDivisor_45 : mn_dec cX8_commonDivisor 45 = some ([], .lload 4) := by decide +kernel
theorem eX8_commonDivisor_47 : mn_dec cX8_commonDivisor 47 = some ([], .lreturn) := by decide +kernel
theorem eX8_compareFractions_0 : mn_dec cX8_compareFractions 0 = some ([], .lload_n 0) := by decide +kernel
theorem eX8_compareFractions_1 : mn_dec cX8_compareFractions 1 = some ([], .lstore 8) := by decide +kernel
theorem eX8_compareFractions_3 : mn_dec cX8_compareFractions 3 = some ([], .lload_n 2) := by decide +kernel
theorem eX8_compareFractions_4 : mn_dec cX8_compareFractions 4 = some ([], .lstore 10) := by decide +kernel
theorem eX8_compareFractions_6 : mn_dec cX8_compareFractions 6 = some ([], .lload 4) := by decide +kernel
theorem eX8_compareFractions_8 : mn_dec cX8_compareFractions 8 = some ([], .lstore 12) := by decide +kernel
theorem eX8_compareFractions_10 : mn_dec cX8_compareFractions 10 = some ([], .lload 6) := by decide +kernel
theorem eX8_compareFractions_12 : mn_dec cX8_compareFractions 12 = some ([], .lstore 14) := by decide +kernel
theorem eX8_compareFractions_14 : mn_dec cX8_compareFractions 14 = some ([], .iconst 0) := by decide +kernel
theorem eX8_compareFractions_15 : mn_dec cX8_compareFractions 15 = some ([], .istore 16) := by decide +kernel
theorem eX8_compareFractions_17 : mn_dec cX8_compareFractions 17 = some ([], .iload 16) := by decide +kernel
theorem eX8_compareFractions_19 : mn_dec cX8_compareFractions 19 = some ([], .sipush 200) := by decide +kernel
theorem eX8_compareFractions_22 : mn_dec cX8_compareFractions 22 = some ([127], .if_icmp .ge 105) := by decide +kernel
theorem eX8_compareFractions_25 : mn_dec cX8_compareFractions 25 = some ([], .lload 10) := by decide +kernel
theorem eX8_compareFractions_27 : mn_dec cX8_compareFractions 27 = some ([], .lconst 0) := by decide +kernel
theorem eX8_compareFractions_28 : mn_dec cX8_compareFractions 28 = some ([], .lcmp) := by decide +kernel
theorem eX8_compareFractions_29 : mn_dec cX8_compareFractions 29 = some ([127], .ifCond .eq 98) := by decide +kernel
theorem eX8_compareFractions_32 : mn_dec cX8_compareFractions 32 = some ([], .lload 14) := by decide +kernel
theorem eX8_compareFractions_34 : mn_dec cX8_compareFractions 34 = some ([], .lconst 0) := by decide +kernel
theorem eX8_compareFractions_35 : mn_dec cX8_compareFractions 35 = some ([], .lcmp) := by decide +kernel
theorem eX8_compareFractions_36 : mn_dec cX8_compareFractions 36 = some ([127], .ifCond .eq 91) := by decide +kernel
theorem eX8_compareFractions_39 : mn_dec cX8_compareFractions 39 = some ([], .lload 8) := by decide +kernel
theorem eX8_compareFractions_41 : mn_dec cX8_compareFractions 41 = some ([], .lload 10) := by decide +kernel
theorem eX8_compareFractions_43 : mn_dec cX8_compareFractions 43 = some ([], .ldiv) := by decide +kernel
theorem eX8_compareFractions_44 : mn_dec cX8_compareFractions 44 = some ([], .lstore 17) := by decide +kernel
theorem eX8_compareFractions_46 : mn_dec cX8_compareFractions 46 = some ([], .lload 12) := by decide +kernel
theorem eX8_compareFractions_48 : mn_dec cX8_compareFractions 48 = some ([], .lload 14) := by decide +kernel
theorem eX8_compareFractions_50 : mn_dec cX8_compareFractions 50 = some ([], .ldiv) := by decide +kernel
theorem eX8_compareFractions_51 : mn_dec cX8_compareFractions 51 = some ([], .lstore 19) := by decide +kernel
theorem eX8_compareFractions_53 : mn_dec cX8_compareFractions 53 = some ([], .lload 17) := by decide +kernel
theorem eX8_compareFractions_55 : mn_dec cX8_compareFractions 55 = some ([], .lload 19) := by decide +kernel
theorem eX8_compareFractions_57 : mn_dec cX8_compareFractions 57 = some ([], .lcmp) := by decide +kernel
theorem eX8_compareFractions_58 : mn_dec cX8_compareFractions 58 = some ([69], .ifCond .eq 11) := by decide +kernel
theorem eX8_compareFractions_61 : mn_dec cX8_compareFractions 61 = some ([], .lload 17) := by decide +kernel
theorem eX8_compareFractions_63 : mn_dec cX8_compareFractions 63 = some ([], .lload 19) := by decide +kernel
theorem eX8_compareFractions_65 : mn_dec cX8_compareFractions 65 = some ([], .invokestatic 233) := by decide +kernel
theorem eX8_compareFractions_68 : mn_dec cX8_compareFractions 68 = some ([], .ireturn) := by decide +kernel
theorem eX8_compareFractions_69 : mn_dec cX8_compareFractions 69 = some ([], .lload 8) := by decide +kernel
theorem eX8_compareFractions_71 : mn_dec cX8_compareFractions 71 = some ([], .lload 10) := by decide +kernel
theorem eX8_compareFractions_73 : mn_dec cX8_compareFractions 73 = some ([], .lrem) := by decide +kernel
theorem eX8_compareFractions_74 : mn_dec cX8_compareFractions 74 = some ([], .lstore 21) := by decide +kernel
theorem eX8_compareFractions_76 : mn_dec cX8_compareFractions 76 = some ([], .lload 12) := by decide +kernel
theorem eX8_compareFractions_78 : mn_dec cX8_compareFractions 78 = some ([], .lload 14) := by decide +kernel
theorem eX8_compareFractions_80 : mn_dec cX8_compareFractions 80 = some ([], .lrem) := by decide +kernel
theorem eX8_compareFractions_81 : mn_dec cX8_compareFractions 81 = some ([], .lstore 23) := by decide +kernel
theorem eX8_compareFractions_83 : mn_dec cX8_compareFractions 83 = some ([], .lload 21) := by decide +kernel
theorem eX8_compareFractions_85 : mn_dec cX8_compareFractions 85 = some ([], .lconst 0) := by decide +kernel
theorem eX8_compareFractions_86 : mn_dec cX8_compareFractions 86 = some ([], .lcmp) := by decide +kernel
theorem eX8_compareFractions_87 : mn_dec cX8_compareFractions 87 = some ([97], .ifCond .eq 10) := by decide +kernel
theorem eX8_compareFractions_90 : mn_dec cX8_compareFractions 90 = some ([], .lload 23) := by decide +kernel
theorem eX8_compareFractions_92 : mn_dec cX8_compareFractions 92 = some ([], .lconst 0) := by decide +kernel
theorem eX8_compareFractions_93 : mn_dec cX8_compareFractions 93 = some ([], .lcmp) := by decide +kernel
theorem eX8_compareFractions_94 : mn_dec cX8_compareFractions 94 = some ([105], .ifCond .ne 11) := by decide +kernel
theorem eX8_compareFractions_97 : mn_dec cX8_compareFractions 97 = some ([], .lload 21) := by decide +kernel
theorem eX8_compareFractions_99 : mn_dec cX8_compareFractions 99 = some ([], .lload 23) := by decide +kernel
theorem eX8_compareFractions_101 : mn_dec cX8_compareFractions 101 = some ([], .invokestatic 233) := by decide +kernel
theorem eX8_compareFractions_104 : mn_dec cX8_compareFractions 104 = some ([], .ireturn) := by decide +kernel
theorem eX8_compareFractions_105 : mn_dec cX8_compareFractions 105 = some ([], .lload 14) := by decide +kernel
theorem eX8_compareFractions_107 : mn_dec cX8_compareFractions 107 = some ([], .lstore 8) := by decide +kernel
theorem eX8_compareFractions_109 : mn_dec cX8_compareFractions 109 = some ([], .lload 10) := by decide +kernel
theorem eX8_compareFractions_111 : mn_dec cX8_compareFractions 111 = some ([], .lstore 12) := by decide +kernel
theorem eX8_compareFractions_113 : mn_dec cX8_compareFractions 113 = some ([], .lload 23) := by decide +kernel
theorem eX8_compareFractions_115 : mn_dec cX8_compareFractions 115 = some ([], .lstore 10) := by decide +kernel
theorem eX8_compareFractions_117 : mn_dec cX8_compareFractions 117 = some ([], .lload 21) := by decide +kernel
theorem eX8_compareFractions_119 : mn_dec cX8_compareFractions 119 = some ([], .lstore 14) := by decide +kernel
theorem eX8_compareFractions_121 : mn_dec cX8_compareFractions 121 = some ([], .iinc 16 1) := by decide +kernel
theorem eX8_compareFractions_124 : mn_dec cX8_compareFractions 124 = some ([17], .goto (-107)) := by decide +kernel
theorem eX8_compareFractions_127 : mn_dec cX8_compareFractions 127 = some ([], .iconst 0) := by decide +kernel
theorem eX8_compareFractions_128 : mn_dec cX8_compareFractions 128 = some ([], .ireturn) := by decide +kernel
