set_option maxRecDepth 20000 in
theorem dX11_init_0 : decode cX11_init 0 = .ok (.aload_n 0, 1) := by decide +kernel
set_option maxRecDepth 20000 in
theorem dX11_init_1 : decode cX11_init 1 = .ok (.invokespecial 1, 3) := by decide +kernel
set_option maxRecDepth 20000 in
theorem dX11_init_4 : decode cX11_init 4 = .ok (.aload_n 0, 1) := by decide +kernel
set_option maxRecDepth 20000 in
theorem dX11_init_5 : decode cX11_init 5 = .ok (.sipush 608, 3) := by decide +kernel
set_option maxRecDepth 20000 in
theorem dX11_init_8 : decode cX11_init 8 = .ok (.newarray .int, 2) := by decide +kernel
set_option maxRecDepth 20000 in
theorem dX11_init_10 : decode cX11_init 10 = .ok (.putfield 7, 3) := by decide +kernel
set_option maxRecDepth 20000 in
theorem dX11_init_13 : decode cX11_init 13 = .ok (.aload_n 0, 1) := by decide +kernel
set_option maxRecDepth 20000 in
theorem dX11_init_14 : decode cX11_init 14 = .ok (.iconst 2, 1) := by decide +kernel
set_option maxRecDepth 20000 in
theorem dX11_init_15 : decode cX11_init 15 = .ok (.newarray .boolean, 2) := by decide +kernel
set_option maxRecDepth 20000 in
theorem dX11_init_17 : decode cX11_init 17 = .ok (.putfield 13, 3) := by decide +kernel
set_option maxRecDepth 20000 in
theorem dX11_init_20 : decode cX11_init 20 = .ok (.aload_n 0, 1) := by decide +kernel
set_option maxRecDepth 20000 in
theorem dX11_init_21 : decode cX11_init 21 = .ok (.sipush 150, 3) := by decide +kernel
set_option maxRecDepth 20000 in
theorem dX11_init_24 : decode cX11_init 24 = .ok (.newarray .int, 2) := by decide +kernel
set_option maxRecDepth 20000 in
theorem dX11_init_26 : decode cX11_init 26 = .ok (.putfield 17, 3) := by decide +kernel
set_option maxRecDepth 20000 in
theorem dX11_init_29 : decode cX11_init 29 = .ok (.aload_n 0, 1) := by decide +kernel
set_option maxRecDepth 20000 in
theorem dX11_init_30 : decode cX11_init 30 = .ok (.iconst 3, 1) := by decide +kernel
set_option maxRecDepth 20000 in
theorem dX11_init_31 : decode cX11_init 31 = .ok (.newarray .int, 2) := by decide +kernel
set_option maxRecDepth 20000 in
theorem dX11_init_33 : decode cX11_init 33 = .ok (.putfield 20, 3) := by decide +kernel
set_option maxRecDepth 20000 in
theorem dX11_init_36 : decode cX11_init 36 = .ok (.aload_n 0, 1) := by decide +kernel
set_option maxRecDepth 20000 in
theorem dX11_init_37 : decode cX11_init 37 = .ok (.lconst 1, 1) := by decide +kernel
set_option maxRecDepth 20000 in
theorem dX11_init_38 : decode cX11_init 38 = .ok (.putfield 23, 3) := by decide +kernel
set_option maxRecDepth 20000 in
theorem dX11_init_41 : decode cX11_init 41 = .ok (.aload_n 0, 1) := by decide +kernel
set_option maxRecDepth 20000 in
theorem dX11_init_42 : decode cX11_init 42 = .ok (.bipush 8, 2) := by decide +kernel
set_option maxRecDepth 20000 in
theorem dX11_init_44 : decode cX11_init 44 = .ok (.newarray .int, 2) := by decide +kernel
set_option maxRecDepth 20000 in
theorem dX11_init_46 : decode cX11_init 46 = .ok (.putfield 27, 3) := by decide +kernel
set_option maxRecDepth 20000 in
theorem dX11_init_49 : decode cX11_init 49 = .ok (.aload_n 0, 1) := by decide +kernel
set_option maxRecDepth 20000 in
theorem dX11_init_50 : decode cX11_init 50 = .ok (.bipush 8, 2) := by decide +kernel
set_option maxRecDepth 20000 in
theorem dX11_init_52 : decode cX11_init 52 = .ok (.newarray .boolean, 2) := by decide +kernel
set_option maxRecDepth 20000 in
theorem dX11_init_54 : decode cX11_init 54 = .ok (.putfield 30, 3) := by decide +kernel
set_option maxRecDepth 20000 in
theorem dX11_init_57 : decode cX11_init 57 = .ok (.aload_n 0, 1) := by decide +kernel
set_option maxRecDepth 20000 in
theorem dX11_init_58 : decode cX11_init 58 = .ok (.bipush 10, 2) := by decide +kernel
set_option maxRecDepth 20000 in
theorem dX11_init_60 : decode cX11_init 60 = .ok (.newarray .int, 2) := by decide +kernel
set_option maxRecDepth 20000 in
theorem dX11_init_62 : decode cX11_init 62 = .ok (.putfield 33, 3) := by decide +kernel
set_option maxRecDepth 20000 in
theorem dX11_init_65 : decode cX11_init 65 = .ok (.aload_n 0, 1) := by decide +kernel
set_option maxRecDepth 20000 in
theorem dX11_init_66 : decode cX11_init 66 = .ok (.bipush 20, 2) := by decide +kernel
set_option maxRecDepth 20000 in
theorem dX11_init_68 : decode cX11_init 68 = .ok (.newarray .int, 2) := by decide +kernel
set_option maxRecDepth 20000 in
theorem dX11_init_70 : decode cX11_init 70 = .ok (.putfield 36, 3) := by decide +kernel
set_option maxRecDepth 20000 in
theorem dX11_init_73 : decode cX11_init 73 = .ok (.aload_n 0, 1) := by decide +kernel
set_option maxRecDepth 20000 in
theorem dX11_init_74 : decode cX11_init 74 = .ok (.bipush 121, 2) := by decide +kernel
set_option maxRecDepth 20000 in
theorem dX11_init_76 : decode cX11_init 76 = .ok (.newarray .int, 2) := by decide +kernel
set_option maxRecDepth 20000 in
theorem dX11_init_78 : decode cX11_init 78 = .ok (.putfield 39, 3) := by decide +kernel
set_option maxRecDepth 20000 in
theorem dX11_init_81 : decode cX11_init 81 = .ok (.aload_n 0, 1) := by decide +kernel
set_option maxRecDepth 20000 in
theorem dX11_init_82 : decode cX11_init 82 = .ok (.bipush 121, 2) := by decide +kernel
set_option maxRecDepth 20000 in
theorem dX11_init_84 : decode cX11_init 84 = .ok (.newarray .int, 2) := by decide +kernel
set_option maxRecDepth 20000 in
theorem dX11_init_86 : decode cX11_init 86 = .ok (.putfield 42, 3) := by decide +kernel
set_option maxRecDepth 20000 in
theorem dX11_init_89 : decode cX11_init 89 = .ok (.aload_n 0, 1) := by decide +kernel
set_option maxRecDepth 20000 in
theorem dX11_init_90 : decode cX11_init 90 = .ok (.iconst 0, 1) := by decide +kernel
set_option maxRecDepth 20000 in
theorem dX11_init_91 : decode cX11_init 91 = .ok (.bipush 20, 2) := by decide +kernel
set_option maxRecDepth 20000 in
theorem dX11_init_93 : decode cX11_init 93 = .ok (.iconst 0, 1) := by decide +kernel
set_option maxRecDepth 20000 in
theorem dX11_init_94 : decode cX11_init 94 = .ok (.invokevirtual 45, 3) := by decide +kernel
set_option maxRecDepth 20000 in
theorem dX11_init_97 : decode cX11_init 97 = .ok (.return_, 1) := by decide +kernel
set_option maxRecDepth 20000 in
theorem dX11_in_0 : decode cX11_in 0 = .ok (.lload_n 0, 1) := by decide +kernel
set_option maxRecDepth 20000 in
theorem dX11_in_1 : decode cX11_in 1 = .ok (.lload_n 2, 1) := by decide +kernel
set_option maxRecDepth 20000 in
theorem dX11_in_2 : decode cX11_in 2 = .ok (.lcmp, 1) := by decide +kernel
set_option maxRecDepth 20000 in
theorem dX11_in_3 : decode cX11_in 3 = .ok (.ifCond .lt 14, 3) := by decide +kernel
set_option maxRecDepth 20000 in
theorem dX11_in_6 : decode cX11_in 6 = .ok (.lload_n 0, 1) := by decide +kernel
set_option maxRecDepth 20000 in
theorem dX11_in_7 : decode cX11_in 7 = .ok (.lload 4, 2) := by decide +kernel
set_option maxRecDepth 20000 in
theorem dX11_in_9 : decode cX11_in 9 = .ok (.lcmp, 1) := by decide +kernel
set_option maxRecDepth 20000 in
theorem dX11_in_10 : decode cX11_in 10 = .ok (.ifCond .gt 7, 3) := by decide +kernel
set_option maxRecDepth 20000 in
theorem dX11_in_13 : decode cX11_in 13 = .ok (.iconst 1, 1) := by decide +kernel
set_option maxRecDepth 20000 in
theorem dX11_in_14 : decode cX11_in 14 = .ok (.goto 4, 3) := by decide +kernel
set_option maxRecDepth 20000 in
theorem dX11_in_17 : decode cX11_in 17 = .ok (.iconst 0, 1) := by decide +kernel
set_option maxRecDepth 20000 in
theorem dX11_in_18 : decode cX11_in 18 = .ok (.ireturn, 1) := by decide +kernel
set_option maxRecDepth 20000 in
theorem dX11_has_0 : decode cX11_has 0 = .ok (.iload_n 0, 1) := by decide +kernel
set_option maxRecDepth 20000 in
theorem dX11_has_1 : decode cX11_has 1 = .ok (.iload_n 1, 1) := by decide +kernel
set_option maxRecDepth 20000 in
theorem dX11_has_2 : decode cX11_has 2 = .ok (.ishr, 1) := by decide +kernel
set_option maxRecDepth 20000 in
theorem dX11_has_3 : decode cX11_has 3 = .ok (.iconst 1, 1) := by decide +kernel
set_option maxRecDepth 20000 in
theorem dX11_has_4 : decode cX11_has 4 = .ok (.iand, 1) := by decide +kernel
set_option maxRecDepth 20000 in
theorem dX11_has_5 : decode cX11_has 5 = .ok (.iconst 1, 1) := by decide +kernel
set_option maxRecDepth 20000 in
theorem dX11_has_6 : decode cX11_has 6 = .ok (.if_icmp .ne 7, 3) := by decide +kernel
set_option maxRecDepth 20000 in
theorem dX11_has_9 : decode cX11_has 9 = .ok (.iconst 1, 1) := by decide +kernel
set_option maxRecDepth 20000 in
theorem dX11_has_10 : decode cX11_has 10 = .ok (.goto 4, 3) := by decide +kernel
set_option maxRecDepth 20000 in
theorem dX11_has_13 : decode cX11_has 13 = .ok (.iconst 0, 1) := by decide +kernel
set_option maxRecDepth 20000 in
theorem dX11_has_14 : decode cX11_has 14 = .ok (.ireturn, 1) := by decide +kernel
set_option maxRecDepth 20000 in
theorem dX11_bad_0 : decode cX11_bad 0 = .ok (.aload_n 0, 1) := by decide +kernel
set_option maxRecDepth 20000 in
theorem dX11_bad_1 : decode cX11_bad 1 = .ok (.getfield 20, 3) := by decide +kernel
set_option maxRecDepth 20000 in
theorem dX11_bad_4 : decode cX11_bad 4 = .ok (.iconst 0, 1) := by decide +kernel
set_option maxRecDepth 20000 in
theorem dX11_bad_5 : decode cX11_bad 5 = .ok (.dup2, 1) := by decide +kernel
set_option maxRecDepth 20000 in
theorem dX11_bad_6 : decode cX11_bad 6 = .ok (.iaload, 1) := by decide +kernel
set_option maxRecDepth 20000 in
theorem dX11_bad_7 : decode cX11_bad 7 = .ok (.iconst 1, 1) := by decide +kernel
set_option maxRecDepth 20000 in
theorem dX11_bad_8 : decode cX11_bad 8 = .ok (.iadd, 1) := by decide +kernel
set_option maxRecDepth 20000 in
theorem dX11_bad_9 : decode cX11_bad 9 = .ok (.iastore, 1) := by decide +kernel
set_option maxRecDepth 20000 in
theorem dX11_bad_10 : decode cX11_bad 10 = .ok (.bipush (-2), 2) := by decide +kernel
set_option maxRecDepth 20000 in
theorem dX11_bad_12 : decode cX11_bad 12 = .ok (.ireturn, 1) := by decide +kernel
set_option maxRecDepth 20000 in
theorem dX11_badAs_0 : decode cX11_badAs 0 = .ok (.aload_n 0, 1) := by decide +kernel
set_option maxRecDepth 20000 in
theorem dX11_badAs_1 : decode cX11_badAs 1 = .ok (.getfield 20, 3) := by decide +kernel
set_option maxRecDepth 20000 in
theorem dX11_badAs_4 : decode cX11_badAs 4 = .ok (.iconst 0, 1) := by decide +kernel
set_option maxRecDepth 20000 in
theorem dX11_badAs_5 : decode cX11_badAs 5 = .ok (.dup2, 1) := by decide +kernel
set_option maxRecDepth 20000 in
theorem dX11_badAs_6 : decode cX11_badAs 6 = .ok (.iaload, 1) := by decide +kernel
set_option maxRecDepth 20000 in
theorem dX11_badAs_7 : decode cX11_badAs 7 = .ok (.iconst 1, 1) := by decide +kernel
set_option maxRecDepth 20000 in
theorem dX11_badAs_8 : decode cX11_badAs 8 = .ok (.iadd, 1) := by decide +kernel
set_option maxRecDepth 20000 in
theorem dX11_badAs_9 : decode cX11_badAs 9 = .ok (.iastore, 1) := by decide +kernel
set_option maxRecDepth 20000 in
theorem dX11_badAs_10 : decode cX11_badAs 10 = .ok (.iload_n 1, 1) := by decide +kernel
set_option maxRecDepth 20000 in
theorem dX11_badAs_11 : decode cX11_badAs 11 = .ok (.ireturn, 1) := by decide +kernel
set_option maxRecDepth 20000 in
theorem dX11_no_0 : decode cX11_no 0 = .ok (.aload_n 0, 1) := by decide +kernel
set_option maxRecDepth 20000 in
theorem dX11_no_1 : decode cX11_no 1 = .ok (.getfield 20, 3) := by decide +kernel
set_option maxRecDepth 20000 in
theorem dX11_no_4 : decode cX11_no 4 = .ok (.iconst 1, 1) := by decide +kernel
set_option maxRecDepth 20000 in
theorem dX11_no_5 : decode cX11_no 5 = .ok (.dup2, 1) := by decide +kernel
set_option maxRecDepth 20000 in
theorem dX11_no_6 : decode cX11_no 6 = .ok (.iaload, 1) := by decide +kernel
set_option maxRecDepth 20000 in
theorem dX11_no_7 : decode cX11_no 7 = .ok (.iconst 1, 1) := by decide +kernel
set_option maxRecDepth 20000 in
theorem dX11_no_8 : decode cX11_no 8 = .ok (.iadd, 1) := by decide +kernel
set_option maxRecDepth 20000 in
theorem dX11_no_9 : decode cX11_no 9 = .ok (.iastore, 1) := by decide +kernel
set_option maxRecDepth 20000 in
theorem dX11_no_10 : decode cX11_no 10 = .ok (.bipush (-3), 2) := by decide +kernel
set_option maxRecDepth 20000 in
theorem dX11_no_12 : decode cX11_no 12 = .ok (.ireturn, 1) := by decide +kernel
set_option maxRecDepth 20000 in
theorem dX11_full_0 : decode cX11_full 0 = .ok (.aload_n 0, 1) := by decide +kernel
set_option maxRecDepth 20000 in
theorem dX11_full_1 : decode cX11_full 1 = .ok (.getfield 20, 3) := by decide +kernel
set_option maxRecDepth 20000 in
theorem dX11_full_4 : decode cX11_full 4 = .ok (.iconst 2, 1) := by decide +kernel
set_option maxRecDepth 20000 in
theorem dX11_full_5 : decode cX11_full 5 = .ok (.dup2, 1) := by decide +kernel
set_option maxRecDepth 20000 in
theorem dX11_full_6 : decode cX11_full 6 = .ok (.iaload, 1) := by decide +kernel
set_option maxRecDepth 20000 in
theorem dX11_full_7 : decode cX11_full 7 = .ok (.iconst 1, 1) := by decide +kernel
set_option maxRecDepth 20000 in
theorem dX11_full_8 : decode cX11_full 8 = .ok (.iadd, 1) := by decide +kernel
set_option maxRecDepth 20000 in
theorem dX11_full_9 : decode cX11_full 9 = .ok (.iastore, 1) := by decide +kernel
set_option maxRecDepth 20000 in
theorem dX11_full_10 : decode cX11_full 10 = .ok (.bipush (-4), 2) := by decide +kernel
set_option maxRecDepth 20000 in
theorem dX11_full_12 : decode cX11_full 12 = .ok (.ireturn, 1) := by decide +kernel
set_option maxRecDepth 20000 in
theorem dX11_copy_0 : decode cX11_copy 0 = .ok (.iconst 0, 1) := by decide +kernel
set_option maxRecDepth 20000 in
theorem dX11_copy_1 : decode cX11_copy 1 = .ok (.istore_n 3, 1) := by decide +kernel
set_option maxRecDepth 20000 in
theorem dX11_copy_2 : decode cX11_copy 2 = .ok (.iload_n 3, 1) := by decide +kernel
set_option maxRecDepth 20000 in
theorem dX11_copy_3 : decode cX11_copy 3 = .ok (.sipush 152, 3) := by decide +kernel
set_option maxRecDepth 20000 in
theorem dX11_copy_6 : decode cX11_copy 6 = .ok (.if_icmp .ge 25, 3) := by decide +kernel
set_option maxRecDepth 20000 in
theorem dX11_copy_9 : decode cX11_copy 9 = .ok (.aload_n 0, 1) := by decide +kernel
set_option maxRecDepth 20000 in
theorem dX11_copy_10 : decode cX11_copy 10 = .ok (.getfield 7, 3) := by decide +kernel
set_option maxRecDepth 20000 in
theorem dX11_copy_13 : decode cX11_copy 13 = .ok (.iload_n 2, 1) := by decide +kernel
set_option maxRecDepth 20000 in
theorem dX11_copy_14 : decode cX11_copy 14 = .ok (.iload_n 3, 1) := by decide +kernel
set_option maxRecDepth 20000 in
theorem dX11_copy_15 : decode cX11_copy 15 = .ok (.iadd, 1) := by decide +kernel
set_option maxRecDepth 20000 in
theorem dX11_copy_16 : decode cX11_copy 16 = .ok (.aload_n 0, 1) := by decide +kernel
set_option maxRecDepth 20000 in
theorem dX11_copy_17 : decode cX11_copy 17 = .ok (.getfield 7, 3) := by decide +kernel
set_option maxRecDepth 20000 in
theorem dX11_copy_20 : decode cX11_copy 20 = .ok (.iload_n 1, 1) := by decide +kernel
set_option maxRecDepth 20000 in
theorem dX11_copy_21 : decode cX11_copy 21 = .ok (.iload_n 3, 1) := by decide +kernel
set_option maxRecDepth 20000 in
theorem dX11_copy_22 : decode cX11_copy 22 = .ok (.iadd, 1) := by decide +kernel
set_option maxRecDepth 20000 in
theorem dX11_copy_23 : decode cX11_copy 23 = .ok (.iaload, 1) := by decide +kernel
set_option maxRecDepth 20000 in
theorem dX11_copy_24 : decode cX11_copy 24 = .ok (.iastore, 1) := by decide +kernel
set_option maxRecDepth 20000 in
theorem dX11_copy_25 : decode cX11_copy 25 = .ok (.iinc 3 1, 3) := by decide +kernel
set_option maxRecDepth 20000 in
theorem dX11_copy_28 : decode cX11_copy 28 = .ok (.goto (-26), 3) := by decide +kernel
set_option maxRecDepth 20000 in
theorem dX11_copy_31 : decode cX11_copy 31 = .ok (.return_, 1) := by decide +kernel
set_option maxRecDepth 20000 in
theorem dX11_begins_0 : decode cX11_begins 0 = .ok (.iconst 0, 1) := by decide +kernel
set_option maxRecDepth 20000 in
theorem dX11_begins_1 : decode cX11_begins 1 = .ok (.istore 4, 2) := by decide +kernel
set_option maxRecDepth 20000 in
theorem dX11_begins_3 : decode cX11_begins 3 = .ok (.iload 4, 2) := by decide +kernel
set_option maxRecDepth 20000 in
theorem dX11_begins_5 : decode cX11_begins 5 = .ok (.sipush 152, 3) := by decide +kernel
set_option maxRecDepth 20000 in
theorem dX11_begins_8 : decode cX11_begins 8 = .ok (.if_icmp .ge 19, 3) := by decide +kernel
set_option maxRecDepth 20000 in
theorem dX11_begins_11 : decode cX11_begins 11 = .ok (.aload_n 0, 1) := by decide +kernel
set_option maxRecDepth 20000 in
theorem dX11_begins_12 : decode cX11_begins 12 = .ok (.getfield 7, 3) := by decide +kernel
set_option maxRecDepth 20000 in
theorem dX11_begins_15 : decode cX11_begins 15 = .ok (.iload_n 1, 1) := by decide +kernel
set_option maxRecDepth 20000 in
theorem dX11_begins_16 : decode cX11_begins 16 = .ok (.iload 4, 2) := by decide +kernel
set_option maxRecDepth 20000 in
theorem dX11_begins_18 : decode cX11_begins 18 = .ok (.iadd, 1) := by decide +kernel
set_option maxRecDepth 20000 in
theorem dX11_begins_19 : decode cX11_begins 19 = .ok (.iconst 0, 1) := by decide +kernel
set_option maxRecDepth 20000 in
theorem dX11_begins_20 : decode cX11_begins 20 = .ok (.iastore, 1) := by decide +kernel
set_option maxRecDepth 20000 in
theorem dX11_begins_21 : decode cX11_begins 21 = .ok (.iinc 4 1, 3) := by decide +kernel
set_option maxRecDepth 20000 in
theorem dX11_begins_24 : decode cX11_begins 24 = .ok (.goto (-21), 3) := by decide +kernel
set_option maxRecDepth 20000 in
theorem dX11_begins_27 : decode cX11_begins 27 = .ok (.aload_n 0, 1) := by decide +kernel
set_option maxRecDepth 20000 in
theorem dX11_begins_28 : decode cX11_begins 28 = .ok (.getfield 7, 3) := by decide +kernel
set_option maxRecDepth 20000 in
theorem dX11_begins_31 : decode cX11_begins 31 = .ok (.iload_n 1, 1) := by decide +kernel
set_option maxRecDepth 20000 in
theorem dX11_begins_32 : decode cX11_begins 32 = .ok (.iconst 0, 1) := by decide +kernel
set_option maxRecDepth 20000 in
theorem dX11_begins_33 : decode cX11_begins 33 = .ok (.iadd, 1) := by decide +kernel
set_option maxRecDepth 20000 in
theorem dX11_begins_34 : decode cX11_begins 34 = .ok (.iload_n 2, 1) := by decide +kernel
set_option maxRecDepth 20000 in
theorem dX11_begins_35 : decode cX11_begins 35 = .ok (.iastore, 1) := by decide +kernel
set_option maxRecDepth 20000 in
theorem dX11_begins_36 : decode cX11_begins 36 = .ok (.aload_n 0, 1) := by decide +kernel
set_option maxRecDepth 20000 in
theorem dX11_begins_37 : decode cX11_begins 37 = .ok (.getfield 7, 3) := by decide +kernel
set_option maxRecDepth 20000 in
theorem dX11_begins_40 : decode cX11_begins 40 = .ok (.iload_n 1, 1) := by decide +kernel
set_option maxRecDepth 20000 in
theorem dX11_begins_41 : decode cX11_begins 41 = .ok (.iconst 1, 1) := by decide +kernel
set_option maxRecDepth 20000 in
theorem dX11_begins_42 : decode cX11_begins 42 = .ok (.iadd, 1) := by decide +kernel
set_option maxRecDepth 20000 in
theorem dX11_begins_43 : decode cX11_begins 43 = .ok (.iload_n 3, 1) := by decide +kernel
set_option maxRecDepth 20000 in
theorem dX11_begins_44 : decode cX11_begins 44 = .ok (.iastore, 1) := by decide +kernel
set_option maxRecDepth 20000 in
theorem dX11_begins_45 : decode cX11_begins 45 = .ok (.iconst 0, 1) := by decide +kernel
set_option maxRecDepth 20000 in
theorem dX11_begins_46 : decode cX11_begins 46 = .ok (.istore 4, 2) := by decide +kernel
set_option maxRecDepth 20000 in
theorem dX11_begins_48 : decode cX11_begins 48 = .ok (.iload 4, 2) := by decide +kernel
set_option maxRecDepth 20000 in
theorem dX11_begins_50 : decode cX11_begins 50 = .ok (.bipush 10, 2) := by decide +kernel
set_option maxRecDepth 20000 in
theorem dX11_begins_52 : decode cX11_begins 52 = .ok (.if_icmp .ge 23, 3) := by decide +kernel
set_option maxRecDepth 20000 in
theorem dX11_begins_55 : decode cX11_begins 55 = .ok (.aload_n 0, 1) := by decide +kernel
set_option maxRecDepth 20000 in
theorem dX11_begins_56 : decode cX11_begins 56 = .ok (.getfield 7, 3) := by decide +kernel
set_option maxRecDepth 20000 in
theorem dX11_begins_59 : decode cX11_begins 59 = .ok (.iload_n 1, 1) := by decide +kernel
set_option maxRecDepth 20000 in
theorem dX11_begins_60 : decode cX11_begins 60 = .ok (.bipush 8, 2) := by decide +kernel
set_option maxRecDepth 20000 in
theorem dX11_begins_62 : decode cX11_begins 62 = .ok (.iadd, 1) := by decide +kernel
set_option maxRecDepth 20000 in
theorem dX11_begins_63 : decode cX11_begins 63 = .ok (.iload 4, 2) := by decide +kernel
set_option maxRecDepth 20000 in
theorem dX11_begins_65 : decode cX11_begins 65 = .ok (.iadd, 1) := by decide +kernel
set_option maxRecDepth 20000 in
theorem dX11_begins_66 : decode cX11_begins 66 = .ok (.bipush 40, 2) := by decide +kernel
set_option maxRecDepth 20000 in
theorem dX11_begins_68 : decode cX11_begins 68 = .ok (.iastore, 1) := by decide +kernel
set_option maxRecDepth 20000 in
theorem dX11_begins_69 : decode cX11_begins 69 = .ok (.iinc 4 1, 3) := by decide +kernel
set_option maxRecDepth 20000 in
theorem dX11_begins_72 : decode cX11_begins 72 = .ok (.goto (-24), 3) := by decide +kernel
set_option maxRecDepth 20000 in
theorem dX11_begins_75 : decode cX11_begins 75 = .ok (.return_, 1) := by decide +kernel
set_option maxRecDepth 20000 in
theorem dX11_isHour_0 : decode cX11_isHour 0 = .ok (.iload_n 0, 1) := by decide +kernel
set_option maxRecDepth 20000 in
theorem dX11_isHour_1 : decode cX11_isHour 1 = .ok (.i2l, 1) := by decide +kernel
set_option maxRecDepth 20000 in
theorem dX11_isHour_2 : decode cX11_isHour 2 = .ok (.lconst 0, 1) := by decide +kernel
set_option maxRecDepth 20000 in
theorem dX11_isHour_3 : decode cX11_isHour 3 = .ok (.ldc2_w 49, 3) := by decide +kernel
set_option maxRecDepth 20000 in
theorem dX11_isHour_6 : decode cX11_isHour 6 = .ok (.invokestatic 51, 3) := by decide +kernel
set_option maxRecDepth 20000 in
theorem dX11_isHour_9 : decode cX11_isHour 9 = .ok (.ireturn, 1) := by decide +kernel
set_option maxRecDepth 20000 in
theorem dX11_isPrice_0 : decode cX11_isPrice 0 = .ok (.iload_n 0, 1) := by decide +kernel
set_option maxRecDepth 20000 in
theorem dX11_isPrice_1 : decode cX11_isPrice 1 = .ok (.i2l, 1) := by decide +kernel
set_option maxRecDepth 20000 in
theorem dX11_isPrice_2 : decode cX11_isPrice 2 = .ok (.lconst 0, 1) := by decide +kernel
set_option maxRecDepth 20000 in
theorem dX11_isPrice_3 : decode cX11_isPrice 3 = .ok (.ldc2_w 55, 3) := by decide +kernel
set_option maxRecDepth 20000 in
theorem dX11_isPrice_6 : decode cX11_isPrice 6 = .ok (.invokestatic 51, 3) := by decide +kernel
set_option maxRecDepth 20000 in
theorem dX11_isPrice_9 : decode cX11_isPrice 9 = .ok (.ireturn, 1) := by decide +kernel
set_option maxRecDepth 20000 in
theorem dX11_pricesFrom_0 : decode cX11_pricesFrom 0 = .ok (.iload_n 2, 1) := by decide +kernel
set_option maxRecDepth 20000 in
theorem dX11_pricesFrom_1 : decode cX11_pricesFrom 1 = .ok (.istore 4, 2) := by decide +kernel
set_option maxRecDepth 20000 in
theorem dX11_pricesFrom_3 : decode cX11_pricesFrom 3 = .ok (.iload 4, 2) := by decide +kernel
set_option maxRecDepth 20000 in
theorem dX11_pricesFrom_5 : decode cX11_pricesFrom 5 = .ok (.bipush 10, 2) := by decide +kernel
set_option maxRecDepth 20000 in
theorem dX11_pricesFrom_7 : decode cX11_pricesFrom 7 = .ok (.if_icmp .ge 22, 3) := by decide +kernel
set_option maxRecDepth 20000 in
theorem dX11_pricesFrom_10 : decode cX11_pricesFrom 10 = .ok (.aload_n 0, 1) := by decide +kernel
set_option maxRecDepth 20000 in
theorem dX11_pricesFrom_11 : decode cX11_pricesFrom 11 = .ok (.getfield 7, 3) := by decide +kernel
set_option maxRecDepth 20000 in
theorem dX11_pricesFrom_14 : decode cX11_pricesFrom 14 = .ok (.iload_n 1, 1) := by decide +kernel
set_option maxRecDepth 20000 in
theorem dX11_pricesFrom_15 : decode cX11_pricesFrom 15 = .ok (.bipush 8, 2) := by decide +kernel
set_option maxRecDepth 20000 in
theorem dX11_pricesFrom_17 : decode cX11_pricesFrom 17 = .ok (.iadd, 1) := by decide +kernel
set_option maxRecDepth 20000 in
theorem dX11_pricesFrom_18 : decode cX11_pricesFrom 18 = .ok (.iload 4, 2) := by decide +kernel
set_option maxRecDepth 20000 in
theorem dX11_pricesFrom_20 : decode cX11_pricesFrom 20 = .ok (.iadd, 1) := by decide +kernel
set_option maxRecDepth 20000 in
theorem dX11_pricesFrom_21 : decode cX11_pricesFrom 21 = .ok (.iload_n 3, 1) := by decide +kernel
set_option maxRecDepth 20000 in
theorem dX11_pricesFrom_22 : decode cX11_pricesFrom 22 = .ok (.iastore, 1) := by decide +kernel
set_option maxRecDepth 20000 in
theorem dX11_pricesFrom_23 : decode cX11_pricesFrom 23 = .ok (.iinc 4 1, 3) := by decide +kernel
set_option maxRecDepth 20000 in
theorem dX11_pricesFrom_26 : decode cX11_pricesFrom 26 = .ok (.goto (-23), 3) := by decide +kernel
set_option maxRecDepth 20000 in
theorem dX11_pricesFrom_29 : decode cX11_pricesFrom 29 = .ok (.return_, 1) := by decide +kernel
set_option maxRecDepth 20000 in
theorem dX11_adds_0 : decode cX11_adds 0 = .ok (.aload_n 0, 1) := by decide +kernel
set_option maxRecDepth 20000 in
theorem dX11_adds_1 : decode cX11_adds 1 = .ok (.getfield 7, 3) := by decide +kernel
set_option maxRecDepth 20000 in
theorem dX11_adds_4 : decode cX11_adds 4 = .ok (.iload_n 1, 1) := by decide +kernel
set_option maxRecDepth 20000 in
theorem dX11_adds_5 : decode cX11_adds 5 = .ok (.iconst 3, 1) := by decide +kernel
set_option maxRecDepth 20000 in
theorem dX11_adds_6 : decode cX11_adds 6 = .ok (.iadd, 1) := by decide +kernel
set_option maxRecDepth 20000 in
theorem dX11_adds_7 : decode cX11_adds 7 = .ok (.iaload, 1) := by decide +kernel
set_option maxRecDepth 20000 in
theorem dX11_adds_8 : decode cX11_adds 8 = .ok (.istore 6, 2) := by decide +kernel
set_option maxRecDepth 20000 in
theorem dX11_adds_10 : decode cX11_adds 10 = .ok (.aload_n 0, 1) := by decide +kernel
set_option maxRecDepth 20000 in
theorem dX11_adds_11 : decode cX11_adds 11 = .ok (.getfield 7, 3) := by decide +kernel
set_option maxRecDepth 20000 in
theorem dX11_adds_14 : decode cX11_adds 14 = .ok (.iload_n 1, 1) := by decide +kernel
set_option maxRecDepth 20000 in
theorem dX11_adds_15 : decode cX11_adds 15 = .ok (.bipush 28, 2) := by decide +kernel
set_option maxRecDepth 20000 in
theorem dX11_adds_17 : decode cX11_adds 17 = .ok (.iadd, 1) := by decide +kernel
set_option maxRecDepth 20000 in
theorem dX11_adds_18 : decode cX11_adds 18 = .ok (.iload 6, 2) := by decide +kernel
set_option maxRecDepth 20000 in
theorem dX11_adds_20 : decode cX11_adds 20 = .ok (.iadd, 1) := by decide +kernel
set_option maxRecDepth 20000 in
theorem dX11_adds_21 : decode cX11_adds 21 = .ok (.iload_n 2, 1) := by decide +kernel
set_option maxRecDepth 20000 in
theorem dX11_adds_22 : decode cX11_adds 22 = .ok (.iastore, 1) := by decide +kernel
set_option maxRecDepth 20000 in
theorem dX11_adds_23 : decode cX11_adds 23 = .ok (.aload_n 0, 1) := by decide +kernel
set_option maxRecDepth 20000 in
theorem dX11_adds_24 : decode cX11_adds 24 = .ok (.getfield 7, 3) := by decide +kernel
set_option maxRecDepth 20000 in
theorem dX11_adds_27 : decode cX11_adds 27 = .ok (.iload_n 1, 1) := by decide +kernel
set_option maxRecDepth 20000 in
theorem dX11_adds_28 : decode cX11_adds 28 = .ok (.bipush 36, 2) := by decide +kernel
set_option maxRecDepth 20000 in
theorem dX11_adds_30 : decode cX11_adds 30 = .ok (.iadd, 1) := by decide +kernel
set_option maxRecDepth 20000 in
theorem dX11_adds_31 : decode cX11_adds 31 = .ok (.iload 6, 2) := by decide +kernel
set_option maxRecDepth 20000 in
theorem dX11_adds_33 : decode cX11_adds 33 = .ok (.iadd, 1) := by decide +kernel
set_option maxRecDepth 20000 in
theorem dX11_adds_34 : decode cX11_adds 34 = .ok (.iload_n 3, 1) := by decide +kernel
set_option maxRecDepth 20000 in
theorem dX11_adds_35 : decode cX11_adds 35 = .ok (.iastore, 1) := by decide +kernel
set_option maxRecDepth 20000 in
theorem dX11_adds_36 : decode cX11_adds 36 = .ok (.aload_n 0, 1) := by decide +kernel
set_option maxRecDepth 20000 in
theorem dX11_adds_37 : decode cX11_adds 37 = .ok (.getfield 7, 3) := by decide +kernel
set_option maxRecDepth 20000 in
theorem dX11_adds_40 : decode cX11_adds 40 = .ok (.iload_n 1, 1) := by decide +kernel
set_option maxRecDepth 20000 in
theorem dX11_adds_41 : decode cX11_adds 41 = .ok (.bipush 44, 2) := by decide +kernel
set_option maxRecDepth 20000 in
theorem dX11_adds_43 : decode cX11_adds 43 = .ok (.iadd, 1) := by decide +kernel
set_option maxRecDepth 20000 in
theorem dX11_adds_44 : decode cX11_adds 44 = .ok (.iload 6, 2) := by decide +kernel
set_option maxRecDepth 20000 in
theorem dX11_adds_46 : decode cX11_adds 46 = .ok (.iadd, 1) := by decide +kernel
set_option maxRecDepth 20000 in
theorem dX11_adds_47 : decode cX11_adds 47 = .ok (.iload 4, 2) := by decide +kernel
set_option maxRecDepth 20000 in
theorem dX11_adds_49 : decode cX11_adds 49 = .ok (.iastore, 1) := by decide +kernel
set_option maxRecDepth 20000 in
theorem dX11_adds_50 : decode cX11_adds 50 = .ok (.aload_n 0, 1) := by decide +kernel
set_option maxRecDepth 20000 in
theorem dX11_adds_51 : decode cX11_adds 51 = .ok (.getfield 7, 3) := by decide +kernel
set_option maxRecDepth 20000 in
theorem dX11_adds_54 : decode cX11_adds 54 = .ok (.iload_n 1, 1) := by decide +kernel
set_option maxRecDepth 20000 in
theorem dX11_adds_55 : decode cX11_adds 55 = .ok (.bipush 52, 2) := by decide +kernel
set_option maxRecDepth 20000 in
theorem dX11_adds_57 : decode cX11_adds 57 = .ok (.iadd, 1) := by decide +kernel
set_option maxRecDepth 20000 in
theorem dX11_adds_58 : decode cX11_adds 58 = .ok (.iload 6, 2) := by decide +kernel
set_option maxRecDepth 20000 in
theorem dX11_adds_60 : decode cX11_adds 60 = .ok (.iadd, 1) := by decide +kernel
set_option maxRecDepth 20000 in
theorem dX11_adds_61 : decode cX11_adds 61 = .ok (.iload 5, 2) := by decide +kernel
set_option maxRecDepth 20000 in
theorem dX11_adds_63 : decode cX11_adds 63 = .ok (.iastore, 1) := by decide +kernel
set_option maxRecDepth 20000 in
theorem dX11_adds_64 : decode cX11_adds 64 = .ok (.aload_n 0, 1) := by decide +kernel
set_option maxRecDepth 20000 in
theorem dX11_adds_65 : decode cX11_adds 65 = .ok (.getfield 7, 3) := by decide +kernel
set_option maxRecDepth 20000 in
theorem dX11_adds_68 : decode cX11_adds 68 = .ok (.iload_n 1, 1) := by decide +kernel
set_option maxRecDepth 20000 in
theorem dX11_adds_69 : decode cX11_adds 69 = .ok (.iconst 3, 1) := by decide +kernel
set_option maxRecDepth 20000 in
theorem dX11_adds_70 : decode cX11_adds 70 = .ok (.iadd, 1) := by decide +kernel
set_option maxRecDepth 20000 in
theorem dX11_adds_71 : decode cX11_adds 71 = .ok (.dup2, 1) := by decide +kernel
set_option maxRecDepth 20000 in
theorem dX11_adds_72 : decode cX11_adds 72 = .ok (.iaload, 1) := by decide +kernel
set_option maxRecDepth 20000 in
theorem dX11_adds_73 : decode cX11_adds 73 = .ok (.iconst 1, 1) := by decide +kernel
set_option maxRecDepth 20000 in
theorem dX11_adds_74 : decode cX11_adds 74 = .ok (.iadd, 1) := by decide +kernel
set_option maxRecDepth 20000 in
theorem dX11_adds_75 : decode cX11_adds 75 = .ok (.iastore, 1) := by decide +kernel
set_option maxRecDepth 20000 in
theorem dX11_adds_76 : decode cX11_adds 76 = .ok (.aload_n 0, 1) := by decide +kernel
set_option maxRecDepth 20000 in
theorem dX11_adds_77 : decode cX11_adds 77 = .ok (.getfield 7, 3) := by decide +kernel
set_option maxRecDepth 20000 in
theorem dX11_adds_80 : decode cX11_adds 80 = .ok (.iload_n 1, 1) := by decide +kernel
set_option maxRecDepth 20000 in
theorem dX11_adds_81 : decode cX11_adds 81 = .ok (.bipush 7, 2) := by decide +kernel
set_option maxRecDepth 20000 in
theorem dX11_adds_83 : decode cX11_adds 83 = .ok (.iadd, 1) := by decide +kernel
set_option maxRecDepth 20000 in
theorem dX11_adds_84 : decode cX11_adds 84 = .ok (.iconst 0, 1) := by decide +kernel
set_option maxRecDepth 20000 in
theorem dX11_adds_85 : decode cX11_adds 85 = .ok (.iastore, 1) := by decide +kernel
set_option maxRecDepth 20000 in
theorem dX11_adds_86 : decode cX11_adds 86 = .ok (.iload 6, 2) := by decide +kernel
set_option maxRecDepth 20000 in
theorem dX11_adds_88 : decode cX11_adds 88 = .ok (.ireturn, 1) := by decide +kernel
set_option maxRecDepth 20000 in
theorem dX11_isBuyer_0 : decode cX11_isBuyer 0 = .ok (.iload_n 1, 1) := by decide +kernel
set_option maxRecDepth 20000 in
theorem dX11_isBuyer_1 : decode cX11_isBuyer 1 = .ok (.i2l, 1) := by decide +kernel
set_option maxRecDepth 20000 in
theorem dX11_isBuyer_2 : decode cX11_isBuyer 2 = .ok (.lconst 0, 1) := by decide +kernel
set_option maxRecDepth 20000 in
theorem dX11_isBuyer_3 : decode cX11_isBuyer 3 = .ok (.aload_n 0, 1) := by decide +kernel
set_option maxRecDepth 20000 in
theorem dX11_isBuyer_4 : decode cX11_isBuyer 4 = .ok (.getfield 7, 3) := by decide +kernel
set_option maxRecDepth 20000 in
theorem dX11_isBuyer_7 : decode cX11_isBuyer 7 = .ok (.iconst 3, 1) := by decide +kernel
set_option maxRecDepth 20000 in
theorem dX11_isBuyer_8 : decode cX11_isBuyer 8 = .ok (.iaload, 1) := by decide +kernel
set_option maxRecDepth 20000 in
theorem dX11_isBuyer_9 : decode cX11_isBuyer 9 = .ok (.iconst 1, 1) := by decide +kernel
set_option maxRecDepth 20000 in
theorem dX11_isBuyer_10 : decode cX11_isBuyer 10 = .ok (.isub, 1) := by decide +kernel
set_option maxRecDepth 20000 in
theorem dX11_isBuyer_11 : decode cX11_isBuyer 11 = .ok (.i2l, 1) := by decide +kernel
set_option maxRecDepth 20000 in
theorem dX11_isBuyer_12 : decode cX11_isBuyer 12 = .ok (.invokestatic 51, 3) := by decide +kernel
set_option maxRecDepth 20000 in
theorem dX11_isBuyer_15 : decode cX11_isBuyer 15 = .ok (.ireturn, 1) := by decide +kernel
set_option maxRecDepth 20000 in
theorem dX11_becomes_0 : decode cX11_becomes 0 = .ok (.aload_n 0, 1) := by decide +kernel
set_option maxRecDepth 20000 in
theorem dX11_becomes_1 : decode cX11_becomes 1 = .ok (.getfield 7, 3) := by decide +kernel
set_option maxRecDepth 20000 in
theorem dX11_becomes_4 : decode cX11_becomes 4 = .ok (.iload_n 1, 1) := by decide +kernel
set_option maxRecDepth 20000 in
theorem dX11_becomes_5 : decode cX11_becomes 5 = .ok (.iaload, 1) := by decide +kernel
set_option maxRecDepth 20000 in
theorem dX11_becomes_6 : decode cX11_becomes 6 = .ok (.istore_n 3, 1) := by decide +kernel
set_option maxRecDepth 20000 in
theorem dX11_becomes_7 : decode cX11_becomes 7 = .ok (.aload_n 0, 1) := by decide +kernel
set_option maxRecDepth 20000 in
theorem dX11_becomes_8 : decode cX11_becomes 8 = .ok (.getfield 7, 3) := by decide +kernel
set_option maxRecDepth 20000 in
theorem dX11_becomes_11 : decode cX11_becomes 11 = .ok (.iload_n 1, 1) := by decide +kernel
set_option maxRecDepth 20000 in
theorem dX11_becomes_12 : decode cX11_becomes 12 = .ok (.iload_n 2, 1) := by decide +kernel
set_option maxRecDepth 20000 in
theorem dX11_becomes_13 : decode cX11_becomes 13 = .ok (.iastore, 1) := by decide +kernel
set_option maxRecDepth 20000 in
theorem dX11_becomes_14 : decode cX11_becomes 14 = .ok (.iload_n 3, 1) := by decide +kernel
set_option maxRecDepth 20000 in
theorem dX11_becomes_15 : decode cX11_becomes 15 = .ok (.ireturn, 1) := by decide +kernel
set_option maxRecDepth 20000 in
theorem dX11_market_0 : decode cX11_market 0 = .ok (.iload_n 1, 1) := by decide +kernel
set_option maxRecDepth 20000 in
theorem dX11_market_1 : decode cX11_market 1 = .ok (.invokestatic 57, 3) := by decide +kernel
set_option maxRecDepth 20000 in
theorem dX11_market_4 : decode cX11_market 4 = .ok (.ifCond .eq 15, 3) := by decide +kernel
set_option maxRecDepth 20000 in
theorem dX11_market_7 : decode cX11_market 7 = .ok (.iload_n 2, 1) := by decide +kernel
set_option maxRecDepth 20000 in
theorem dX11_market_8 : decode cX11_market 8 = .ok (.i2l, 1) := by decide +kernel
set_option maxRecDepth 20000 in
theorem dX11_market_9 : decode cX11_market 9 = .ok (.lconst 0, 1) := by decide +kernel
set_option maxRecDepth 20000 in
theorem dX11_market_10 : decode cX11_market 10 = .ok (.ldc2_w 49, 3) := by decide +kernel
set_option maxRecDepth 20000 in
theorem dX11_market_13 : decode cX11_market 13 = .ok (.invokestatic 51, 3) := by decide +kernel
set_option maxRecDepth 20000 in
theorem dX11_market_16 : decode cX11_market 16 = .ok (.ifCond .ne 8, 3) := by decide +kernel
set_option maxRecDepth 20000 in
theorem dX11_market_19 : decode cX11_market 19 = .ok (.aload_n 0, 1) := by decide +kernel
set_option maxRecDepth 20000 in
theorem dX11_market_20 : decode cX11_market 20 = .ok (.invokevirtual 61, 3) := by decide +kernel
set_option maxRecDepth 20000 in
theorem dX11_market_23 : decode cX11_market 23 = .ok (.ireturn, 1) := by decide +kernel
set_option maxRecDepth 20000 in
theorem dX11_market_24 : decode cX11_market 24 = .ok (.aload_n 0, 1) := by decide +kernel
set_option maxRecDepth 20000 in
theorem dX11_market_25 : decode cX11_market 25 = .ok (.getfield 7, 3) := by decide +kernel
set_option maxRecDepth 20000 in
theorem dX11_market_28 : decode cX11_market 28 = .ok (.iconst 3, 1) := by decide +kernel
set_option maxRecDepth 20000 in
theorem dX11_market_29 : decode cX11_market 29 = .ok (.iaload, 1) := by decide +kernel
set_option maxRecDepth 20000 in
theorem dX11_market_30 : decode cX11_market 30 = .ok (.istore_n 3, 1) := by decide +kernel
set_option maxRecDepth 20000 in
theorem dX11_market_31 : decode cX11_market 31 = .ok (.aload_n 0, 1) := by decide +kernel
set_option maxRecDepth 20000 in
theorem dX11_market_32 : decode cX11_market 32 = .ok (.iconst 0, 1) := by decide +kernel
set_option maxRecDepth 20000 in
theorem dX11_market_33 : decode cX11_market 33 = .ok (.iload_n 1, 1) := by decide +kernel
set_option maxRecDepth 20000 in
theorem dX11_market_34 : decode cX11_market 34 = .ok (.iload_n 2, 1) := by decide +kernel
set_option maxRecDepth 20000 in
theorem dX11_market_35 : decode cX11_market 35 = .ok (.invokevirtual 45, 3) := by decide +kernel
set_option maxRecDepth 20000 in
theorem dX11_market_38 : decode cX11_market 38 = .ok (.iload_n 3, 1) := by decide +kernel
set_option maxRecDepth 20000 in
theorem dX11_market_39 : decode cX11_market 39 = .ok (.ireturn, 1) := by decide +kernel
set_option maxRecDepth 20000 in
theorem dX11_bring_0 : decode cX11_bring 0 = .ok (.iload_n 1, 1) := by decide +kernel
set_option maxRecDepth 20000 in
theorem dX11_bring_1 : decode cX11_bring 1 = .ok (.invokestatic 57, 3) := by decide +kernel
set_option maxRecDepth 20000 in
theorem dX11_bring_4 : decode cX11_bring 4 = .ok (.ifCond .eq 12, 3) := by decide +kernel
set_option maxRecDepth 20000 in
theorem dX11_bring_7 : decode cX11_bring 7 = .ok (.aload_n 0, 1) := by decide +kernel
set_option maxRecDepth 20000 in
theorem dX11_bring_8 : decode cX11_bring 8 = .ok (.iconst 0, 1) := by decide +kernel
set_option maxRecDepth 20000 in
theorem dX11_bring_9 : decode cX11_bring 9 = .ok (.iload_n 1, 1) := by decide +kernel
set_option maxRecDepth 20000 in
theorem dX11_bring_10 : decode cX11_bring 10 = .ok (.invokevirtual 65, 3) := by decide +kernel
set_option maxRecDepth 20000 in
theorem dX11_bring_13 : decode cX11_bring 13 = .ok (.goto 7, 3) := by decide +kernel
set_option maxRecDepth 20000 in
theorem dX11_bring_16 : decode cX11_bring 16 = .ok (.aload_n 0, 1) := by decide +kernel
set_option maxRecDepth 20000 in
theorem dX11_bring_17 : decode cX11_bring 17 = .ok (.invokevirtual 61, 3) := by decide +kernel
set_option maxRecDepth 20000 in
theorem dX11_bring_20 : decode cX11_bring 20 = .ok (.ireturn, 1) := by decide +kernel
set_option maxRecDepth 20000 in
theorem dX11_price_0 : decode cX11_price 0 = .ok (.iload_n 1, 1) := by decide +kernel
set_option maxRecDepth 20000 in
theorem dX11_price_1 : decode cX11_price 1 = .ok (.invokestatic 69, 3) := by decide +kernel
set_option maxRecDepth 20000 in
theorem dX11_price_4 : decode cX11_price 4 = .ok (.ifCond .eq 10, 3) := by decide +kernel
set_option maxRecDepth 20000 in
theorem dX11_price_7 : decode cX11_price 7 = .ok (.iload_n 2, 1) := by decide +kernel
set_option maxRecDepth 20000 in
theorem dX11_price_8 : decode cX11_price 8 = .ok (.invokestatic 57, 3) := by decide +kernel
set_option maxRecDepth 20000 in
theorem dX11_price_11 : decode cX11_price 11 = .ok (.ifCond .ne 8, 3) := by decide +kernel
set_option maxRecDepth 20000 in
theorem dX11_price_14 : decode cX11_price 14 = .ok (.aload_n 0, 1) := by decide +kernel
set_option maxRecDepth 20000 in
theorem dX11_price_15 : decode cX11_price 15 = .ok (.invokevirtual 61, 3) := by decide +kernel
set_option maxRecDepth 20000 in
theorem dX11_price_18 : decode cX11_price 18 = .ok (.ireturn, 1) := by decide +kernel
set_option maxRecDepth 20000 in
theorem dX11_price_19 : decode cX11_price 19 = .ok (.aload_n 0, 1) := by decide +kernel
set_option maxRecDepth 20000 in
theorem dX11_price_20 : decode cX11_price 20 = .ok (.getfield 7, 3) := by decide +kernel
set_option maxRecDepth 20000 in
theorem dX11_price_23 : decode cX11_price 23 = .ok (.bipush 8, 2) := by decide +kernel
set_option maxRecDepth 20000 in
theorem dX11_price_25 : decode cX11_price 25 = .ok (.iload_n 1, 1) := by decide +kernel
set_option maxRecDepth 20000 in
theorem dX11_price_26 : decode cX11_price 26 = .ok (.iadd, 1) := by decide +kernel
set_option maxRecDepth 20000 in
theorem dX11_price_27 : decode cX11_price 27 = .ok (.iaload, 1) := by decide +kernel
set_option maxRecDepth 20000 in
theorem dX11_price_28 : decode cX11_price 28 = .ok (.istore_n 3, 1) := by decide +kernel
set_option maxRecDepth 20000 in
theorem dX11_price_29 : decode cX11_price 29 = .ok (.aload_n 0, 1) := by decide +kernel
set_option maxRecDepth 20000 in
theorem dX11_price_30 : decode cX11_price 30 = .ok (.iconst 0, 1) := by decide +kernel
set_option maxRecDepth 20000 in
theorem dX11_price_31 : decode cX11_price 31 = .ok (.iload_n 1, 1) := by decide +kernel
set_option maxRecDepth 20000 in
theorem dX11_price_32 : decode cX11_price 32 = .ok (.iload_n 2, 1) := by decide +kernel
set_option maxRecDepth 20000 in
theorem dX11_price_33 : decode cX11_price 33 = .ok (.invokevirtual 72, 3) := by decide +kernel
set_option maxRecDepth 20000 in
theorem dX11_price_36 : decode cX11_price 36 = .ok (.iload_n 3, 1) := by decide +kernel
set_option maxRecDepth 20000 in
theorem dX11_price_37 : decode cX11_price 37 = .ok (.ireturn, 1) := by decide +kernel
set_option maxRecDepth 20000 in
theorem dX11_theirs_0 : decode cX11_theirs 0 = .ok (.iload_n 1, 1) := by decide +kernel
set_option maxRecDepth 20000 in
theorem dX11_theirs_1 : decode cX11_theirs 1 = .ok (.invokestatic 69, 3) := by decide +kernel
set_option maxRecDepth 20000 in
theorem dX11_theirs_4 : decode cX11_theirs 4 = .ok (.ifCond .eq 22, 3) := by decide +kernel
set_option maxRecDepth 20000 in
theorem dX11_theirs_7 : decode cX11_theirs 7 = .ok (.iload_n 2, 1) := by decide +kernel
set_option maxRecDepth 20000 in
theorem dX11_theirs_8 : decode cX11_theirs 8 = .ok (.invokestatic 57, 3) := by decide +kernel
set_option maxRecDepth 20000 in
theorem dX11_theirs_11 : decode cX11_theirs 11 = .ok (.ifCond .eq 15, 3) := by decide +kernel
set_option maxRecDepth 20000 in
theorem dX11_theirs_14 : decode cX11_theirs 14 = .ok (.aload_n 0, 1) := by decide +kernel
set_option maxRecDepth 20000 in
theorem dX11_theirs_15 : decode cX11_theirs 15 = .ok (.bipush 18, 2) := by decide +kernel
set_option maxRecDepth 20000 in
theorem dX11_theirs_17 : decode cX11_theirs 17 = .ok (.iload_n 1, 1) := by decide +kernel
set_option maxRecDepth 20000 in
theorem dX11_theirs_18 : decode cX11_theirs 18 = .ok (.iadd, 1) := by decide +kernel
set_option maxRecDepth 20000 in
theorem dX11_theirs_19 : decode cX11_theirs 19 = .ok (.iload_n 2, 1) := by decide +kernel
set_option maxRecDepth 20000 in
theorem dX11_theirs_20 : decode cX11_theirs 20 = .ok (.invokevirtual 65, 3) := by decide +kernel
set_option maxRecDepth 20000 in
theorem dX11_theirs_23 : decode cX11_theirs 23 = .ok (.goto 7, 3) := by decide +kernel
set_option maxRecDepth 20000 in
theorem dX11_theirs_26 : decode cX11_theirs 26 = .ok (.aload_n 0, 1) := by decide +kernel
set_option maxRecDepth 20000 in
theorem dX11_theirs_27 : decode cX11_theirs 27 = .ok (.invokevirtual 61, 3) := by decide +kernel
set_option maxRecDepth 20000 in
theorem dX11_theirs_30 : decode cX11_theirs 30 = .ok (.ireturn, 1) := by decide +kernel
set_option maxRecDepth 20000 in
theorem dX11_rain_0 : decode cX11_rain 0 = .ok (.iload_n 1, 1) := by decide +kernel
set_option maxRecDepth 20000 in
theorem dX11_rain_1 : decode cX11_rain 1 = .ok (.i2l, 1) := by decide +kernel
set_option maxRecDepth 20000 in
theorem dX11_rain_2 : decode cX11_rain 2 = .ok (.lconst 0, 1) := by decide +kernel
set_option maxRecDepth 20000 in
theorem dX11_rain_3 : decode cX11_rain 3 = .ok (.ldc2_w 75, 3) := by decide +kernel
set_option maxRecDepth 20000 in
theorem dX11_rain_6 : decode cX11_rain 6 = .ok (.invokestatic 51, 3) := by decide +kernel
set_option maxRecDepth 20000 in
theorem dX11_rain_9 : decode cX11_rain 9 = .ok (.ifCond .eq 12, 3) := by decide +kernel
set_option maxRecDepth 20000 in
theorem dX11_rain_12 : decode cX11_rain 12 = .ok (.aload_n 0, 1) := by decide +kernel
set_option maxRecDepth 20000 in
theorem dX11_rain_13 : decode cX11_rain 13 = .ok (.iconst 2, 1) := by decide +kernel
set_option maxRecDepth 20000 in
theorem dX11_rain_14 : decode cX11_rain 14 = .ok (.iload_n 1, 1) := by decide +kernel
set_option maxRecDepth 20000 in
theorem dX11_rain_15 : decode cX11_rain 15 = .ok (.invokevirtual 65, 3) := by decide +kernel
set_option maxRecDepth 20000 in
theorem dX11_rain_18 : decode cX11_rain 18 = .ok (.goto 7, 3) := by decide +kernel
set_option maxRecDepth 20000 in
theorem dX11_rain_21 : decode cX11_rain 21 = .ok (.aload_n 0, 1) := by decide +kernel
set_option maxRecDepth 20000 in
theorem dX11_rain_22 : decode cX11_rain 22 = .ok (.invokevirtual 61, 3) := by decide +kernel
set_option maxRecDepth 20000 in
theorem dX11_rain_25 : decode cX11_rain 25 = .ok (.ireturn, 1) := by decide +kernel
set_option maxRecDepth 20000 in
theorem dX11_buyer_0 : decode cX11_buyer 0 = .ok (.iload_n 1, 1) := by decide +kernel
set_option maxRecDepth 20000 in
theorem dX11_buyer_1 : decode cX11_buyer 1 = .ok (.i2l, 1) := by decide +kernel
set_option maxRecDepth 20000 in
theorem dX11_buyer_2 : decode cX11_buyer 2 = .ok (.lconst 0, 1) := by decide +kernel
set_option maxRecDepth 20000 in
theorem dX11_buyer_3 : decode cX11_buyer 3 = .ok (.ldc2_w 77, 3) := by decide +kernel
set_option maxRecDepth 20000 in
theorem dX11_buyer_6 : decode cX11_buyer 6 = .ok (.invokestatic 51, 3) := by decide +kernel
set_option maxRecDepth 20000 in
theorem dX11_buyer_9 : decode cX11_buyer 9 = .ok (.ifCond .eq 30, 3) := by decide +kernel
set_option maxRecDepth 20000 in
theorem dX11_buyer_12 : decode cX11_buyer 12 = .ok (.iload_n 2, 1) := by decide +kernel
set_option maxRecDepth 20000 in
theorem dX11_buyer_13 : decode cX11_buyer 13 = .ok (.invokestatic 69, 3) := by decide +kernel
set_option maxRecDepth 20000 in
theorem dX11_buyer_16 : decode cX11_buyer 16 = .ok (.ifCond .eq 23, 3) := by decide +kernel
set_option maxRecDepth 20000 in
theorem dX11_buyer_19 : decode cX11_buyer 19 = .ok (.iload_n 3, 1) := by decide +kernel
set_option maxRecDepth 20000 in
theorem dX11_buyer_20 : decode cX11_buyer 20 = .ok (.invokestatic 57, 3) := by decide +kernel
set_option maxRecDepth 20000 in
theorem dX11_buyer_23 : decode cX11_buyer 23 = .ok (.ifCond .eq 16, 3) := by decide +kernel
set_option maxRecDepth 20000 in
theorem dX11_buyer_26 : decode cX11_buyer 26 = .ok (.iload 4, 2) := by decide +kernel
set_option maxRecDepth 20000 in
theorem dX11_buyer_28 : decode cX11_buyer 28 = .ok (.i2l, 1) := by decide +kernel
set_option maxRecDepth 20000 in
theorem dX11_buyer_29 : decode cX11_buyer 29 = .ok (.lconst 1, 1) := by decide +kernel
set_option maxRecDepth 20000 in
theorem dX11_buyer_30 : decode cX11_buyer 30 = .ok (.ldc2_w 79, 3) := by decide +kernel
set_option maxRecDepth 20000 in
theorem dX11_buyer_33 : decode cX11_buyer 33 = .ok (.invokestatic 51, 3) := by decide +kernel
set_option maxRecDepth 20000 in
theorem dX11_buyer_36 : decode cX11_buyer 36 = .ok (.ifCond .ne 8, 3) := by decide +kernel
set_option maxRecDepth 20000 in
theorem dX11_buyer_39 : decode cX11_buyer 39 = .ok (.aload_n 0, 1) := by decide +kernel
set_option maxRecDepth 20000 in
theorem dX11_buyer_40 : decode cX11_buyer 40 = .ok (.invokevirtual 61, 3) := by decide +kernel
set_option maxRecDepth 20000 in
theorem dX11_buyer_43 : decode cX11_buyer 43 = .ok (.ireturn, 1) := by decide +kernel
set_option maxRecDepth 20000 in
theorem dX11_buyer_44 : decode cX11_buyer 44 = .ok (.aload_n 0, 1) := by decide +kernel
set_option maxRecDepth 20000 in
theorem dX11_buyer_45 : decode cX11_buyer 45 = .ok (.getfield 7, 3) := by decide +kernel
set_option maxRecDepth 20000 in
theorem dX11_buyer_48 : decode cX11_buyer 48 = .ok (.iconst 3, 1) := by decide +kernel
set_option maxRecDepth 20000 in
theorem dX11_buyer_49 : decode cX11_buyer 49 = .ok (.iaload, 1) := by decide +kernel
set_option maxRecDepth 20000 in
theorem dX11_buyer_50 : decode cX11_buyer 50 = .ok (.bipush 8, 2) := by decide +kernel
set_option maxRecDepth 20000 in
theorem dX11_buyer_52 : decode cX11_buyer 52 = .ok (.if_icmp .ne 10, 3) := by decide +kernel
set_option maxRecDepth 20000 in
theorem dX11_buyer_55 : decode cX11_buyer 55 = .ok (.aload_n 0, 1) := by decide +kernel
set_option maxRecDepth 20000 in
theorem dX11_buyer_56 : decode cX11_buyer 56 = .ok (.invokevirtual 81, 3) := by decide +kernel
set_option maxRecDepth 20000 in
theorem dX11_buyer_59 : decode cX11_buyer 59 = .ok (.goto 13, 3) := by decide +kernel
set_option maxRecDepth 20000 in
theorem dX11_buyer_62 : decode cX11_buyer 62 = .ok (.aload_n 0, 1) := by decide +kernel
set_option maxRecDepth 20000 in
theorem dX11_buyer_63 : decode cX11_buyer 63 = .ok (.iconst 0, 1) := by decide +kernel
set_option maxRecDepth 20000 in
theorem dX11_buyer_64 : decode cX11_buyer 64 = .ok (.iload_n 1, 1) := by decide +kernel
set_option maxRecDepth 20000 in
theorem dX11_buyer_65 : decode cX11_buyer 65 = .ok (.iload_n 2, 1) := by decide +kernel
set_option maxRecDepth 20000 in
theorem dX11_buyer_66 : decode cX11_buyer 66 = .ok (.iload_n 3, 1) := by decide +kernel
set_option maxRecDepth 20000 in
theorem dX11_buyer_67 : decode cX11_buyer 67 = .ok (.iload 4, 2) := by decide +kernel
set_option maxRecDepth 20000 in
theorem dX11_buyer_69 : decode cX11_buyer 69 = .ok (.invokevirtual 84, 3) := by decide +kernel
set_option maxRecDepth 20000 in
theorem dX11_buyer_72 : decode cX11_buyer 72 = .ok (.ireturn, 1) := by decide +kernel
set_option maxRecDepth 20000 in
theorem dX11_type_0 : decode cX11_type 0 = .ok (.iload_n 1, 1) := by decide +kernel
set_option maxRecDepth 20000 in
theorem dX11_type_1 : decode cX11_type 1 = .ok (.i2l, 1) := by decide +kernel
set_option maxRecDepth 20000 in
theorem dX11_type_2 : decode cX11_type 2 = .ok (.lconst 0, 1) := by decide +kernel
set_option maxRecDepth 20000 in
theorem dX11_type_3 : decode cX11_type 3 = .ok (.ldc2_w 88, 3) := by decide +kernel
set_option maxRecDepth 20000 in
theorem dX11_type_6 : decode cX11_type 6 = .ok (.invokestatic 51, 3) := by decide +kernel
set_option maxRecDepth 20000 in
theorem dX11_type_9 : decode cX11_type 9 = .ok (.ifCond .ne 8, 3) := by decide +kernel
set_option maxRecDepth 20000 in
theorem dX11_type_12 : decode cX11_type 12 = .ok (.aload_n 0, 1) := by decide +kernel
set_option maxRecDepth 20000 in
theorem dX11_type_13 : decode cX11_type 13 = .ok (.invokevirtual 61, 3) := by decide +kernel
set_option maxRecDepth 20000 in
theorem dX11_type_16 : decode cX11_type 16 = .ok (.ireturn, 1) := by decide +kernel
set_option maxRecDepth 20000 in
theorem dX11_type_17 : decode cX11_type 17 = .ok (.aload_n 0, 1) := by decide +kernel
set_option maxRecDepth 20000 in
theorem dX11_type_18 : decode cX11_type 18 = .ok (.getfield 90, 3) := by decide +kernel
set_option maxRecDepth 20000 in
theorem dX11_type_21 : decode cX11_type 21 = .ok (.sipush 150, 3) := by decide +kernel
set_option maxRecDepth 20000 in
theorem dX11_type_24 : decode cX11_type 24 = .ok (.if_icmp .ne 8, 3) := by decide +kernel
set_option maxRecDepth 20000 in
theorem dX11_type_27 : decode cX11_type 27 = .ok (.aload_n 0, 1) := by decide +kernel
set_option maxRecDepth 20000 in
theorem dX11_type_28 : decode cX11_type 28 = .ok (.invokevirtual 81, 3) := by decide +kernel
set_option maxRecDepth 20000 in
theorem dX11_type_31 : decode cX11_type 31 = .ok (.ireturn, 1) := by decide +kernel
set_option maxRecDepth 20000 in
theorem dX11_type_32 : decode cX11_type 32 = .ok (.aload_n 0, 1) := by decide +kernel
set_option maxRecDepth 20000 in
theorem dX11_type_33 : decode cX11_type 33 = .ok (.getfield 17, 3) := by decide +kernel
set_option maxRecDepth 20000 in
theorem dX11_type_36 : decode cX11_type 36 = .ok (.aload_n 0, 1) := by decide +kernel
set_option maxRecDepth 20000 in
theorem dX11_type_37 : decode cX11_type 37 = .ok (.getfield 90, 3) := by decide +kernel
set_option maxRecDepth 20000 in
theorem dX11_type_40 : decode cX11_type 40 = .ok (.iload_n 1, 1) := by decide +kernel
set_option maxRecDepth 20000 in
theorem dX11_type_41 : decode cX11_type 41 = .ok (.iastore, 1) := by decide +kernel
set_option maxRecDepth 20000 in
theorem dX11_type_42 : decode cX11_type 42 = .ok (.aload_n 0, 1) := by decide +kernel
set_option maxRecDepth 20000 in
theorem dX11_type_43 : decode cX11_type 43 = .ok (.dup, 1) := by decide +kernel
set_option maxRecDepth 20000 in
theorem dX11_type_44 : decode cX11_type 44 = .ok (.getfield 90, 3) := by decide +kernel
set_option maxRecDepth 20000 in
theorem dX11_type_47 : decode cX11_type 47 = .ok (.iconst 1, 1) := by decide +kernel
set_option maxRecDepth 20000 in
theorem dX11_type_48 : decode cX11_type 48 = .ok (.iadd, 1) := by decide +kernel
set_option maxRecDepth 20000 in
theorem dX11_type_49 : decode cX11_type 49 = .ok (.putfield 90, 3) := by decide +kernel
set_option maxRecDepth 20000 in
theorem dX11_type_52 : decode cX11_type 52 = .ok (.aload_n 0, 1) := by decide +kernel
set_option maxRecDepth 20000 in
theorem dX11_type_53 : decode cX11_type 53 = .ok (.getfield 90, 3) := by decide +kernel
set_option maxRecDepth 20000 in
theorem dX11_type_56 : decode cX11_type 56 = .ok (.ireturn, 1) := by decide +kernel
set_option maxRecDepth 20000 in
theorem dX11_clear_0 : decode cX11_clear 0 = .ok (.aload_n 0, 1) := by decide +kernel
set_option maxRecDepth 20000 in
theorem dX11_clear_1 : decode cX11_clear 1 = .ok (.getfield 90, 3) := by decide +kernel
set_option maxRecDepth 20000 in
theorem dX11_clear_4 : decode cX11_clear 4 = .ok (.istore_n 1, 1) := by decide +kernel
set_option maxRecDepth 20000 in
theorem dX11_clear_5 : decode cX11_clear 5 = .ok (.aload_n 0, 1) := by decide +kernel
set_option maxRecDepth 20000 in
theorem dX11_clear_6 : decode cX11_clear 6 = .ok (.iconst 0, 1) := by decide +kernel
set_option maxRecDepth 20000 in
theorem dX11_clear_7 : decode cX11_clear 7 = .ok (.putfield 90, 3) := by decide +kernel
set_option maxRecDepth 20000 in
theorem dX11_clear_10 : decode cX11_clear 10 = .ok (.iload_n 1, 1) := by decide +kernel
set_option maxRecDepth 20000 in
theorem dX11_clear_11 : decode cX11_clear 11 = .ok (.ireturn, 1) := by decide +kernel
set_option maxRecDepth 20000 in
theorem dX11_byteAt_0 : decode cX11_byteAt 0 = .ok (.iload_n 1, 1) := by decide +kernel
set_option maxRecDepth 20000 in
theorem dX11_byteAt_1 : decode cX11_byteAt 1 = .ok (.aload_n 0, 1) := by decide +kernel
set_option maxRecDepth 20000 in
theorem dX11_byteAt_2 : decode cX11_byteAt 2 = .ok (.getfield 90, 3) := by decide +kernel
set_option maxRecDepth 20000 in
theorem dX11_byteAt_5 : decode cX11_byteAt 5 = .ok (.if_icmp .ge 12, 3) := by decide +kernel
set_option maxRecDepth 20000 in
theorem dX11_byteAt_8 : decode cX11_byteAt 8 = .ok (.aload_n 0, 1) := by decide +kernel
set_option maxRecDepth 20000 in
theorem dX11_byteAt_9 : decode cX11_byteAt 9 = .ok (.getfield 17, 3) := by decide +kernel
set_option maxRecDepth 20000 in
theorem dX11_byteAt_12 : decode cX11_byteAt 12 = .ok (.iload_n 1, 1) := by decide +kernel
set_option maxRecDepth 20000 in
theorem dX11_byteAt_13 : decode cX11_byteAt 13 = .ok (.iaload, 1) := by decide +kernel
set_option maxRecDepth 20000 in
theorem dX11_byteAt_14 : decode cX11_byteAt 14 = .ok (.goto 4, 3) := by decide +kernel
set_option maxRecDepth 20000 in
theorem dX11_byteAt_17 : decode cX11_byteAt 17 = .ok (.iconst (-1), 1) := by decide +kernel
set_option maxRecDepth 20000 in
theorem dX11_byteAt_18 : decode cX11_byteAt 18 = .ok (.ireturn, 1) := by decide +kernel
set_option maxRecDepth 20000 in
theorem dX11_token_0 : decode cX11_token 0 = .ok (.aload_n 0, 1) := by decide +kernel
set_option maxRecDepth 20000 in
theorem dX11_token_1 : decode cX11_token 1 = .ok (.aload_n 0, 1) := by decide +kernel
set_option maxRecDepth 20000 in
theorem dX11_token_2 : decode cX11_token 2 = .ok (.getfield 94, 3) := by decide +kernel
set_option maxRecDepth 20000 in
theorem dX11_token_5 : decode cX11_token 5 = .ok (.invokevirtual 97, 3) := by decide +kernel
set_option maxRecDepth 20000 in
theorem dX11_token_8 : decode cX11_token 8 = .ok (.bipush 32, 2) := by decide +kernel
set_option maxRecDepth 20000 in
theorem dX11_token_10 : decode cX11_token 10 = .ok (.if_icmp .ne 16, 3) := by decide +kernel
set_option maxRecDepth 20000 in
theorem dX11_token_13 : decode cX11_token 13 = .ok (.aload_n 0, 1) := by decide +kernel
set_option maxRecDepth 20000 in
theorem dX11_token_14 : decode cX11_token 14 = .ok (.dup, 1) := by decide +kernel
set_option maxRecDepth 20000 in
theorem dX11_token_15 : decode cX11_token 15 = .ok (.getfield 94, 3) := by decide +kernel
set_option maxRecDepth 20000 in
theorem dX11_token_18 : decode cX11_token 18 = .ok (.iconst 1, 1) := by decide +kernel
set_option maxRecDepth 20000 in
theorem dX11_token_19 : decode cX11_token 19 = .ok (.iadd, 1) := by decide +kernel
set_option maxRecDepth 20000 in
theorem dX11_token_20 : decode cX11_token 20 = .ok (.putfield 94, 3) := by decide +kernel
set_option maxRecDepth 20000 in
theorem dX11_token_23 : decode cX11_token 23 = .ok (.goto (-23), 3) := by decide +kernel
set_option maxRecDepth 20000 in
theorem dX11_token_26 : decode cX11_token 26 = .ok (.aload_n 0, 1) := by decide +kernel
set_option maxRecDepth 20000 in
theorem dX11_token_27 : decode cX11_token 27 = .ok (.aload_n 0, 1) := by decide +kernel
set_option maxRecDepth 20000 in
theorem dX11_token_28 : decode cX11_token 28 = .ok (.getfield 94, 3) := by decide +kernel
set_option maxRecDepth 20000 in
theorem dX11_token_31 : decode cX11_token 31 = .ok (.putfield 101, 3) := by decide +kernel
set_option maxRecDepth 20000 in
theorem dX11_token_34 : decode cX11_token 34 = .ok (.aload_n 0, 1) := by decide +kernel
set_option maxRecDepth 20000 in
theorem dX11_token_35 : decode cX11_token 35 = .ok (.aload_n 0, 1) := by decide +kernel
set_option maxRecDepth 20000 in
theorem dX11_token_36 : decode cX11_token 36 = .ok (.aload_n 0, 1) := by decide +kernel
set_option maxRecDepth 20000 in
theorem dX11_token_37 : decode cX11_token 37 = .ok (.getfield 94, 3) := by decide +kernel
set_option maxRecDepth 20000 in
theorem dX11_token_40 : decode cX11_token 40 = .ok (.invokevirtual 97, 3) := by decide +kernel
set_option maxRecDepth 20000 in
theorem dX11_token_43 : decode cX11_token 43 = .ok (.i2l, 1) := by decide +kernel
set_option maxRecDepth 20000 in
theorem dX11_token_44 : decode cX11_token 44 = .ok (.ldc2_w 104, 3) := by decide +kernel
set_option maxRecDepth 20000 in
theorem dX11_token_47 : decode cX11_token 47 = .ok (.ldc2_w 106, 3) := by decide +kernel
set_option maxRecDepth 20000 in
theorem dX11_token_50 : decode cX11_token 50 = .ok (.invokestatic 51, 3) := by decide +kernel
set_option maxRecDepth 20000 in
theorem dX11_token_53 : decode cX11_token 53 = .ok (.putfield 108, 3) := by decide +kernel
set_option maxRecDepth 20000 in
theorem dX11_token_56 : decode cX11_token 56 = .ok (.aload_n 0, 1) := by decide +kernel
set_option maxRecDepth 20000 in
theorem dX11_token_57 : decode cX11_token 57 = .ok (.aload_n 0, 1) := by decide +kernel
set_option maxRecDepth 20000 in
theorem dX11_token_58 : decode cX11_token 58 = .ok (.aload_n 0, 1) := by decide +kernel
set_option maxRecDepth 20000 in
theorem dX11_token_59 : decode cX11_token 59 = .ok (.getfield 94, 3) := by decide +kernel
set_option maxRecDepth 20000 in
theorem dX11_token_62 : decode cX11_token 62 = .ok (.invokevirtual 97, 3) := by decide +kernel
set_option maxRecDepth 20000 in
theorem dX11_token_65 : decode cX11_token 65 = .ok (.i2l, 1) := by decide +kernel
set_option maxRecDepth 20000 in
theorem dX11_token_66 : decode cX11_token 66 = .ok (.ldc2_w 112, 3) := by decide +kernel
set_option maxRecDepth 20000 in
theorem dX11_token_69 : decode cX11_token 69 = .ok (.ldc2_w 114, 3) := by decide +kernel
set_option maxRecDepth 20000 in
theorem dX11_token_72 : decode cX11_token 72 = .ok (.invokestatic 51, 3) := by decide +kernel
set_option maxRecDepth 20000 in
theorem dX11_token_75 : decode cX11_token 75 = .ok (.putfield 116, 3) := by decide +kernel
set_option maxRecDepth 20000 in
theorem dX11_token_78 : decode cX11_token 78 = .ok (.aload_n 0, 1) := by decide +kernel
set_option maxRecDepth 20000 in
theorem dX11_token_79 : decode cX11_token 79 = .ok (.dup, 1) := by decide +kernel
set_option maxRecDepth 20000 in
theorem dX11_token_80 : decode cX11_token 80 = .ok (.getfield 94, 3) := by decide +kernel
set_option maxRecDepth 20000 in
theorem dX11_token_83 : decode cX11_token 83 = .ok (.aload_n 0, 1) := by decide +kernel
set_option maxRecDepth 20000 in
theorem dX11_token_84 : decode cX11_token 84 = .ok (.getfield 94, 3) := by decide +kernel
set_option maxRecDepth 20000 in
theorem dX11_token_87 : decode cX11_token 87 = .ok (.aload_n 0, 1) := by decide +kernel
set_option maxRecDepth 20000 in
theorem dX11_token_88 : decode cX11_token 88 = .ok (.getfield 90, 3) := by decide +kernel
set_option maxRecDepth 20000 in
theorem dX11_token_91 : decode cX11_token 91 = .ok (.if_icmp .ge 7, 3) := by decide +kernel
set_option maxRecDepth 20000 in
theorem dX11_token_94 : decode cX11_token 94 = .ok (.iconst 1, 1) := by decide +kernel
set_option maxRecDepth 20000 in
theorem dX11_token_95 : decode cX11_token 95 = .ok (.goto 4, 3) := by decide +kernel
set_option maxRecDepth 20000 in
theorem dX11_token_98 : decode cX11_token 98 = .ok (.iconst 0, 1) := by decide +kernel
set_option maxRecDepth 20000 in
theorem dX11_token_99 : decode cX11_token 99 = .ok (.iadd, 1) := by decide +kernel
set_option maxRecDepth 20000 in
theorem dX11_token_100 : decode cX11_token 100 = .ok (.putfield 94, 3) := by decide +kernel
set_option maxRecDepth 20000 in
theorem dX11_token_103 : decode cX11_token 103 = .ok (.aload_n 0, 1) := by decide +kernel
set_option maxRecDepth 20000 in
theorem dX11_token_104 : decode cX11_token 104 = .ok (.getfield 108, 3) := by decide +kernel
set_option maxRecDepth 20000 in
theorem dX11_token_107 : decode cX11_token 107 = .ok (.ifCond .eq 24, 3) := by decide +kernel
set_option maxRecDepth 20000 in
theorem dX11_token_110 : decode cX11_token 110 = .ok (.aload_n 0, 1) := by decide +kernel
set_option maxRecDepth 20000 in
theorem dX11_token_111 : decode cX11_token 111 = .ok (.aload_n 0, 1) := by decide +kernel
set_option maxRecDepth 20000 in
theorem dX11_token_112 : decode cX11_token 112 = .ok (.getfield 94, 3) := by decide +kernel
set_option maxRecDepth 20000 in
theorem dX11_token_115 : decode cX11_token 115 = .ok (.invokevirtual 97, 3) := by decide +kernel
set_option maxRecDepth 20000 in
theorem dX11_token_118 : decode cX11_token 118 = .ok (.i2l, 1) := by decide +kernel
set_option maxRecDepth 20000 in
theorem dX11_token_119 : decode cX11_token 119 = .ok (.ldc2_w 104, 3) := by decide +kernel
set_option maxRecDepth 20000 in
theorem dX11_token_122 : decode cX11_token 122 = .ok (.ldc2_w 106, 3) := by decide +kernel
set_option maxRecDepth 20000 in
theorem dX11_token_125 : decode cX11_token 125 = .ok (.invokestatic 51, 3) := by decide +kernel
set_option maxRecDepth 20000 in
theorem dX11_token_128 : decode cX11_token 128 = .ok (.ifCond .ne 31, 3) := by decide +kernel
set_option maxRecDepth 20000 in
theorem dX11_token_131 : decode cX11_token 131 = .ok (.aload_n 0, 1) := by decide +kernel
set_option maxRecDepth 20000 in
theorem dX11_token_132 : decode cX11_token 132 = .ok (.getfield 116, 3) := by decide +kernel
set_option maxRecDepth 20000 in
theorem dX11_token_135 : decode cX11_token 135 = .ok (.ifCond .eq 37, 3) := by decide +kernel
set_option maxRecDepth 20000 in
theorem dX11_token_138 : decode cX11_token 138 = .ok (.aload_n 0, 1) := by decide +kernel
set_option maxRecDepth 20000 in
theorem dX11_token_139 : decode cX11_token 139 = .ok (.aload_n 0, 1) := by decide +kernel
set_option maxRecDepth 20000 in
theorem dX11_token_140 : decode cX11_token 140 = .ok (.getfield 94, 3) := by decide +kernel
set_option maxRecDepth 20000 in
theorem dX11_token_143 : decode cX11_token 143 = .ok (.invokevirtual 97, 3) := by decide +kernel
set_option maxRecDepth 20000 in
theorem dX11_token_146 : decode cX11_token 146 = .ok (.i2l, 1) := by decide +kernel
set_option maxRecDepth 20000 in
theorem dX11_token_147 : decode cX11_token 147 = .ok (.ldc2_w 112, 3) := by decide +kernel
set_option maxRecDepth 20000 in
theorem dX11_token_150 : decode cX11_token 150 = .ok (.ldc2_w 114, 3) := by decide +kernel
set_option maxRecDepth 20000 in
theorem dX11_token_153 : decode cX11_token 153 = .ok (.invokestatic 51, 3) := by decide +kernel
set_option maxRecDepth 20000 in
theorem dX11_token_156 : decode cX11_token 156 = .ok (.ifCond .eq 16, 3) := by decide +kernel
set_option maxRecDepth 20000 in
theorem dX11_token_159 : decode cX11_token 159 = .ok (.aload_n 0, 1) := by decide +kernel
set_option maxRecDepth 20000 in
theorem dX11_token_160 : decode cX11_token 160 = .ok (.dup, 1) := by decide +kernel
set_option maxRecDepth 20000 in
theorem dX11_token_161 : decode cX11_token 161 = .ok (.getfield 94, 3) := by decide +kernel
set_option maxRecDepth 20000 in
theorem dX11_token_164 : decode cX11_token 164 = .ok (.iconst 1, 1) := by decide +kernel
set_option maxRecDepth 20000 in
theorem dX11_token_165 : decode cX11_token 165 = .ok (.iadd, 1) := by decide +kernel
set_option maxRecDepth 20000 in
theorem dX11_token_166 : decode cX11_token 166 = .ok (.putfield 94, 3) := by decide +kernel
set_option maxRecDepth 20000 in
theorem dX11_token_169 : decode cX11_token 169 = .ok (.goto (-66), 3) := by decide +kernel
set_option maxRecDepth 20000 in
theorem dX11_token_172 : decode cX11_token 172 = .ok (.return_, 1) := by decide +kernel
set_option maxRecDepth 20000 in
theorem dX11_isNamed_0 : decode cX11_isNamed 0 = .ok (.iload 5, 2) := by decide +kernel
set_option maxRecDepth 20000 in
theorem dX11_isNamed_2 : decode cX11_isNamed 2 = .ok (.ifCond .ne 7, 3) := by decide +kernel
set_option maxRecDepth 20000 in
theorem dX11_isNamed_5 : decode cX11_isNamed 5 = .ok (.iconst 4, 1) := by decide +kernel
set_option maxRecDepth 20000 in
theorem dX11_isNamed_6 : decode cX11_isNamed 6 = .ok (.goto 14, 3) := by decide +kernel
set_option maxRecDepth 20000 in
theorem dX11_isNamed_9 : decode cX11_isNamed 9 = .ok (.iload 6, 2) := by decide +kernel
set_option maxRecDepth 20000 in
theorem dX11_isNamed_11 : decode cX11_isNamed 11 = .ok (.ifCond .ne 7, 3) := by decide +kernel
set_option maxRecDepth 20000 in
theorem dX11_isNamed_14 : decode cX11_isNamed 14 = .ok (.iconst 5, 1) := by decide +kernel
set_option maxRecDepth 20000 in
theorem dX11_isNamed_15 : decode cX11_isNamed 15 = .ok (.goto 5, 3) := by decide +kernel
set_option maxRecDepth 20000 in
theorem dX11_isNamed_18 : decode cX11_isNamed 18 = .ok (.bipush 6, 2) := by decide +kernel
set_option maxRecDepth 20000 in
theorem dX11_isNamed_20 : decode cX11_isNamed 20 = .ok (.istore 7, 2) := by decide +kernel
set_option maxRecDepth 20000 in
theorem dX11_isNamed_22 : decode cX11_isNamed 22 = .ok (.aload_n 0, 1) := by decide +kernel
set_option maxRecDepth 20000 in
theorem dX11_isNamed_23 : decode cX11_isNamed 23 = .ok (.getfield 108, 3) := by decide +kernel
set_option maxRecDepth 20000 in
theorem dX11_isNamed_26 : decode cX11_isNamed 26 = .ok (.ifCond .eq 76, 3) := by decide +kernel
set_option maxRecDepth 20000 in
theorem dX11_isNamed_29 : decode cX11_isNamed 29 = .ok (.aload_n 0, 1) := by decide +kernel
set_option maxRecDepth 20000 in
theorem dX11_isNamed_30 : decode cX11_isNamed 30 = .ok (.getfield 94, 3) := by decide +kernel
set_option maxRecDepth 20000 in
theorem dX11_isNamed_33 : decode cX11_isNamed 33 = .ok (.aload_n 0, 1) := by decide +kernel
set_option maxRecDepth 20000 in
theorem dX11_isNamed_34 : decode cX11_isNamed 34 = .ok (.getfield 101, 3) := by decide +kernel
set_option maxRecDepth 20000 in
theorem dX11_isNamed_37 : decode cX11_isNamed 37 = .ok (.isub, 1) := by decide +kernel
set_option maxRecDepth 20000 in
theorem dX11_isNamed_38 : decode cX11_isNamed 38 = .ok (.iload 7, 2) := by decide +kernel
set_option maxRecDepth 20000 in
theorem dX11_isNamed_40 : decode cX11_isNamed 40 = .ok (.if_icmp .ne 62, 3) := by decide +kernel
set_option maxRecDepth 20000 in
theorem dX11_isNamed_43 : decode cX11_isNamed 43 = .ok (.aload_n 0, 1) := by decide +kernel
set_option maxRecDepth 20000 in
theorem dX11_isNamed_44 : decode cX11_isNamed 44 = .ok (.aload_n 0, 1) := by decide +kernel
set_option maxRecDepth 20000 in
theorem dX11_isNamed_45 : decode cX11_isNamed 45 = .ok (.getfield 101, 3) := by decide +kernel
set_option maxRecDepth 20000 in
theorem dX11_isNamed_48 : decode cX11_isNamed 48 = .ok (.invokevirtual 97, 3) := by decide +kernel
set_option maxRecDepth 20000 in
theorem dX11_isNamed_51 : decode cX11_isNamed 51 = .ok (.iload_n 1, 1) := by decide +kernel
set_option maxRecDepth 20000 in
theorem dX11_isNamed_52 : decode cX11_isNamed 52 = .ok (.if_icmp .ne 50, 3) := by decide +kernel
set_option maxRecDepth 20000 in
theorem dX11_isNamed_55 : decode cX11_isNamed 55 = .ok (.aload_n 0, 1) := by decide +kernel
set_option maxRecDepth 20000 in
theorem dX11_isNamed_56 : decode cX11_isNamed 56 = .ok (.aload_n 0, 1) := by decide +kernel
set_option maxRecDepth 20000 in
theorem dX11_isNamed_57 : decode cX11_isNamed 57 = .ok (.getfield 101, 3) := by decide +kernel
set_option maxRecDepth 20000 in
theorem dX11_isNamed_60 : decode cX11_isNamed 60 = .ok (.iconst 1, 1) := by decide +kernel
set_option maxRecDepth 20000 in
theorem dX11_isNamed_61 : decode cX11_isNamed 61 = .ok (.iadd, 1) := by decide +kernel
set_option maxRecDepth 20000 in
theorem dX11_isNamed_62 : decode cX11_isNamed 62 = .ok (.invokevirtual 97, 3) := by decide +kernel
set_option maxRecDepth 20000 in
theorem dX11_isNamed_65 : decode cX11_isNamed 65 = .ok (.iload_n 2, 1) := by decide +kernel
set_option maxRecDepth 20000 in
theorem dX11_isNamed_66 : decode cX11_isNamed 66 = .ok (.if_icmp .ne 36, 3) := by decide +kernel
set_option maxRecDepth 20000 in
theorem dX11_isNamed_69 : decode cX11_isNamed 69 = .ok (.aload_n 0, 1) := by decide +kernel
set_option maxRecDepth 20000 in
theorem dX11_isNamed_70 : decode cX11_isNamed 70 = .ok (.aload_n 0, 1) := by decide +kernel
set_option maxRecDepth 20000 in
theorem dX11_isNamed_71 : decode cX11_isNamed 71 = .ok (.getfield 101, 3) := by decide +kernel
set_option maxRecDepth 20000 in
theorem dX11_isNamed_74 : decode cX11_isNamed 74 = .ok (.iconst 2, 1) := by decide +kernel
set_option maxRecDepth 20000 in
theorem dX11_isNamed_75 : decode cX11_isNamed 75 = .ok (.iadd, 1) := by decide +kernel
set_option maxRecDepth 20000 in
theorem dX11_isNamed_76 : decode cX11_isNamed 76 = .ok (.invokevirtual 97, 3) := by decide +kernel
set_option maxRecDepth 20000 in
theorem dX11_isNamed_79 : decode cX11_isNamed 79 = .ok (.iload_n 3, 1) := by decide +kernel
set_option maxRecDepth 20000 in
theorem dX11_isNamed_80 : decode cX11_isNamed 80 = .ok (.if_icmp .ne 22, 3) := by decide +kernel
set_option maxRecDepth 20000 in
theorem dX11_isNamed_83 : decode cX11_isNamed 83 = .ok (.aload_n 0, 1) := by decide +kernel
set_option maxRecDepth 20000 in
theorem dX11_isNamed_84 : decode cX11_isNamed 84 = .ok (.aload_n 0, 1) := by decide +kernel
set_option maxRecDepth 20000 in
theorem dX11_isNamed_85 : decode cX11_isNamed 85 = .ok (.getfield 101, 3) := by decide +kernel
set_option maxRecDepth 20000 in
theorem dX11_isNamed_88 : decode cX11_isNamed 88 = .ok (.iconst 3, 1) := by decide +kernel
set_option maxRecDepth 20000 in
theorem dX11_isNamed_89 : decode cX11_isNamed 89 = .ok (.iadd, 1) := by decide +kernel
set_option maxRecDepth 20000 in
theorem dX11_isNamed_90 : decode cX11_isNamed 90 = .ok (.invokevirtual 97, 3) := by decide +kernel
set_option maxRecDepth 20000 in
theorem dX11_isNamed_93 : decode cX11_isNamed 93 = .ok (.iload 4, 2) := by decide +kernel
set_option maxRecDepth 20000 in
theorem dX11_isNamed_95 : decode cX11_isNamed 95 = .ok (.if_icmp .ne 7, 3) := by decide +kernel
set_option maxRecDepth 20000 in
theorem dX11_isNamed_98 : decode cX11_isNamed 98 = .ok (.iconst 1, 1) := by decide +kernel
set_option maxRecDepth 20000 in
theorem dX11_isNamed_99 : decode cX11_isNamed 99 = .ok (.goto 4, 3) := by decide +kernel
set_option maxRecDepth 20000 in
theorem dX11_isNamed_102 : decode cX11_isNamed 102 = .ok (.iconst 0, 1) := by decide +kernel
set_option maxRecDepth 20000 in
theorem dX11_isNamed_103 : decode cX11_isNamed 103 = .ok (.istore 8, 2) := by decide +kernel
set_option maxRecDepth 20000 in
theorem dX11_isNamed_105 : decode cX11_isNamed 105 = .ok (.iload 8, 2) := by decide +kernel
set_option maxRecDepth 20000 in
theorem dX11_isNamed_107 : decode cX11_isNamed 107 = .ok (.ifCond .eq 47, 3) := by decide +kernel
set_option maxRecDepth 20000 in
theorem dX11_isNamed_110 : decode cX11_isNamed 110 = .ok (.iload 5, 2) := by decide +kernel
set_option maxRecDepth 20000 in
theorem dX11_isNamed_112 : decode cX11_isNamed 112 = .ok (.ifCond .eq 18, 3) := by decide +kernel
set_option maxRecDepth 20000 in
theorem dX11_isNamed_115 : decode cX11_isNamed 115 = .ok (.aload_n 0, 1) := by decide +kernel
set_option maxRecDepth 20000 in
theorem dX11_isNamed_116 : decode cX11_isNamed 116 = .ok (.aload_n 0, 1) := by decide +kernel
set_option maxRecDepth 20000 in
theorem dX11_isNamed_117 : decode cX11_isNamed 117 = .ok (.getfield 101, 3) := by decide +kernel
set_option maxRecDepth 20000 in
theorem dX11_isNamed_120 : decode cX11_isNamed 120 = .ok (.iconst 4, 1) := by decide +kernel
set_option maxRecDepth 20000 in
theorem dX11_isNamed_121 : decode cX11_isNamed 121 = .ok (.iadd, 1) := by decide +kernel
set_option maxRecDepth 20000 in
theorem dX11_isNamed_122 : decode cX11_isNamed 122 = .ok (.invokevirtual 97, 3) := by decide +kernel
set_option maxRecDepth 20000 in
theorem dX11_isNamed_125 : decode cX11_isNamed 125 = .ok (.iload 5, 2) := by decide +kernel
set_option maxRecDepth 20000 in
theorem dX11_isNamed_127 : decode cX11_isNamed 127 = .ok (.if_icmp .ne 27, 3) := by decide +kernel
set_option maxRecDepth 20000 in
theorem dX11_isNamed_130 : decode cX11_isNamed 130 = .ok (.iload 6, 2) := by decide +kernel
set_option maxRecDepth 20000 in
theorem dX11_isNamed_132 : decode cX11_isNamed 132 = .ok (.ifCond .eq 18, 3) := by decide +kernel
set_option maxRecDepth 20000 in
theorem dX11_isNamed_135 : decode cX11_isNamed 135 = .ok (.aload_n 0, 1) := by decide +kernel
set_option maxRecDepth 20000 in
theorem dX11_isNamed_136 : decode cX11_isNamed 136 = .ok (.aload_n 0, 1) := by decide +kernel
set_option maxRecDepth 20000 in
theorem dX11_isNamed_137 : decode cX11_isNamed 137 = .ok (.getfield 101, 3) := by decide +kernel
set_option maxRecDepth 20000 in
theorem dX11_isNamed_140 : decode cX11_isNamed 140 = .ok (.iconst 5, 1) := by decide +kernel
set_option maxRecDepth 20000 in
theorem dX11_isNamed_141 : decode cX11_isNamed 141 = .ok (.iadd, 1) := by decide +kernel
set_option maxRecDepth 20000 in
theorem dX11_isNamed_142 : decode cX11_isNamed 142 = .ok (.invokevirtual 97, 3) := by decide +kernel
set_option maxRecDepth 20000 in
theorem dX11_isNamed_145 : decode cX11_isNamed 145 = .ok (.iload 6, 2) := by decide +kernel
set_option maxRecDepth 20000 in
theorem dX11_isNamed_147 : decode cX11_isNamed 147 = .ok (.if_icmp .ne 7, 3) := by decide +kernel
set_option maxRecDepth 20000 in
theorem dX11_isNamed_150 : decode cX11_isNamed 150 = .ok (.iconst 1, 1) := by decide +kernel
set_option maxRecDepth 20000 in
theorem dX11_isNamed_151 : decode cX11_isNamed 151 = .ok (.goto 4, 3) := by decide +kernel
set_option maxRecDepth 20000 in
theorem dX11_isNamed_154 : decode cX11_isNamed 154 = .ok (.iconst 0, 1) := by decide +kernel
set_option maxRecDepth 20000 in
theorem dX11_isNamed_155 : decode cX11_isNamed 155 = .ok (.ireturn, 1) := by decide +kernel
set_option maxRecDepth 20000 in
theorem dX11_wordNow_0 : decode cX11_wordNow 0 = .ok (.aload_n 0, 1) := by decide +kernel
set_option maxRecDepth 20000 in
theorem dX11_wordNow_1 : decode cX11_wordNow 1 = .ok (.bipush 109, 2) := by decide +kernel
set_option maxRecDepth 20000 in
theorem dX11_wordNow_3 : decode cX11_wordNow 3 = .ok (.bipush 97, 2) := by decide +kernel
set_option maxRecDepth 20000 in
theorem dX11_wordNow_5 : decode cX11_wordNow 5 = .ok (.bipush 114, 2) := by decide +kernel
set_option maxRecDepth 20000 in
theorem dX11_wordNow_7 : decode cX11_wordNow 7 = .ok (.bipush 107, 2) := by decide +kernel
set_option maxRecDepth 20000 in
theorem dX11_wordNow_9 : decode cX11_wordNow 9 = .ok (.bipush 101, 2) := by decide +kernel
set_option maxRecDepth 20000 in
theorem dX11_wordNow_11 : decode cX11_wordNow 11 = .ok (.bipush 116, 2) := by decide +kernel
set_option maxRecDepth 20000 in
theorem dX11_wordNow_13 : decode cX11_wordNow 13 = .ok (.invokevirtual 119, 3) := by decide +kernel
set_option maxRecDepth 20000 in
theorem dX11_wordNow_16 : decode cX11_wordNow 16 = .ok (.ifCond .eq 5, 3) := by decide +kernel
set_option maxRecDepth 20000 in
theorem dX11_wordNow_19 : decode cX11_wordNow 19 = .ok (.iconst 0, 1) := by decide +kernel
set_option maxRecDepth 20000 in
theorem dX11_wordNow_20 : decode cX11_wordNow 20 = .ok (.ireturn, 1) := by decide +kernel
set_option maxRecDepth 20000 in
theorem dX11_wordNow_21 : decode cX11_wordNow 21 = .ok (.aload_n 0, 1) := by decide +kernel
set_option maxRecDepth 20000 in
theorem dX11_wordNow_22 : decode cX11_wordNow 22 = .ok (.bipush 112, 2) := by decide +kernel
set_option maxRecDepth 20000 in
theorem dX11_wordNow_24 : decode cX11_wordNow 24 = .ok (.bipush 114, 2) := by decide +kernel
set_option maxRecDepth 20000 in
theorem dX11_wordNow_26 : decode cX11_wordNow 26 = .ok (.bipush 105, 2) := by decide +kernel
set_option maxRecDepth 20000 in
theorem dX11_wordNow_28 : decode cX11_wordNow 28 = .ok (.bipush 99, 2) := by decide +kernel
set_option maxRecDepth 20000 in
theorem dX11_wordNow_30 : decode cX11_wordNow 30 = .ok (.bipush 101, 2) := by decide +kernel
set_option maxRecDepth 20000 in
theorem dX11_wordNow_32 : decode cX11_wordNow 32 = .ok (.iconst 0, 1) := by decide +kernel
set_option maxRecDepth 20000 in
theorem dX11_wordNow_33 : decode cX11_wordNow 33 = .ok (.invokevirtual 119, 3) := by decide +kernel
set_option maxRecDepth 20000 in
theorem dX11_wordNow_36 : decode cX11_wordNow 36 = .ok (.ifCond .eq 5, 3) := by decide +kernel
set_option maxRecDepth 20000 in
theorem dX11_wordNow_39 : decode cX11_wordNow 39 = .ok (.iconst 1, 1) := by decide +kernel
set_option maxRecDepth 20000 in
theorem dX11_wordNow_40 : decode cX11_wordNow 40 = .ok (.ireturn, 1) := by decide +kernel
set_option maxRecDepth 20000 in
theorem dX11_wordNow_41 : decode cX11_wordNow 41 = .ok (.aload_n 0, 1) := by decide +kernel
set_option maxRecDepth 20000 in
theorem dX11_wordNow_42 : decode cX11_wordNow 42 = .ok (.bipush 116, 2) := by decide +kernel
set_option maxRecDepth 20000 in
theorem dX11_wordNow_44 : decode cX11_wordNow 44 = .ok (.bipush 104, 2) := by decide +kernel
set_option maxRecDepth 20000 in
theorem dX11_wordNow_46 : decode cX11_wordNow 46 = .ok (.bipush 101, 2) := by decide +kernel
set_option maxRecDepth 20000 in
theorem dX11_wordNow_48 : decode cX11_wordNow 48 = .ok (.bipush 105, 2) := by decide +kernel
set_option maxRecDepth 20000 in
theorem dX11_wordNow_50 : decode cX11_wordNow 50 = .ok (.bipush 114, 2) := by decide +kernel
set_option maxRecDepth 20000 in
theorem dX11_wordNow_52 : decode cX11_wordNow 52 = .ok (.bipush 115, 2) := by decide +kernel
set_option maxRecDepth 20000 in
theorem dX11_wordNow_54 : decode cX11_wordNow 54 = .ok (.invokevirtual 119, 3) := by decide +kernel
set_option maxRecDepth 20000 in
theorem dX11_wordNow_57 : decode cX11_wordNow 57 = .ok (.ifCond .eq 5, 3) := by decide +kernel
set_option maxRecDepth 20000 in
theorem dX11_wordNow_60 : decode cX11_wordNow 60 = .ok (.iconst 2, 1) := by decide +kernel
set_option maxRecDepth 20000 in
theorem dX11_wordNow_61 : decode cX11_wordNow 61 = .ok (.ireturn, 1) := by decide +kernel
set_option maxRecDepth 20000 in
theorem dX11_wordNow_62 : decode cX11_wordNow 62 = .ok (.aload_n 0, 1) := by decide +kernel
set_option maxRecDepth 20000 in
theorem dX11_wordNow_63 : decode cX11_wordNow 63 = .ok (.bipush 114, 2) := by decide +kernel
set_option maxRecDepth 20000 in
theorem dX11_wordNow_65 : decode cX11_wordNow 65 = .ok (.bipush 97, 2) := by decide +kernel
set_option maxRecDepth 20000 in
theorem dX11_wordNow_67 : decode cX11_wordNow 67 = .ok (.bipush 105, 2) := by decide +kernel
set_option maxRecDepth 20000 in
theorem dX11_wordNow_69 : decode cX11_wordNow 69 = .ok (.bipush 110, 2) := by decide +kernel
set_option maxRecDepth 20000 in
theorem dX11_wordNow_71 : decode cX11_wordNow 71 = .ok (.iconst 0, 1) := by decide +kernel
set_option maxRecDepth 20000 in
theorem dX11_wordNow_72 : decode cX11_wordNow 72 = .ok (.iconst 0, 1) := by decide +kernel
set_option maxRecDepth 20000 in
theorem dX11_wordNow_73 : decode cX11_wordNow 73 = .ok (.invokevirtual 119, 3) := by decide +kernel
set_option maxRecDepth 20000 in
theorem dX11_wordNow_76 : decode cX11_wordNow 76 = .ok (.ifCond .eq 7, 3) := by decide +kernel
set_option maxRecDepth 20000 in
theorem dX11_wordNow_79 : decode cX11_wordNow 79 = .ok (.iconst 3, 1) := by decide +kernel
set_option maxRecDepth 20000 in
theorem dX11_wordNow_80 : decode cX11_wordNow 80 = .ok (.goto 26, 3) := by decide +kernel
set_option maxRecDepth 20000 in
theorem dX11_wordNow_83 : decode cX11_wordNow 83 = .ok (.aload_n 0, 1) := by decide +kernel
set_option maxRecDepth 20000 in
theorem dX11_wordNow_84 : decode cX11_wordNow 84 = .ok (.bipush 98, 2) := by decide +kernel
set_option maxRecDepth 20000 in
theorem dX11_wordNow_86 : decode cX11_wordNow 86 = .ok (.bipush 117, 2) := by decide +kernel
set_option maxRecDepth 20000 in
theorem dX11_wordNow_88 : decode cX11_wordNow 88 = .ok (.bipush 121, 2) := by decide +kernel
set_option maxRecDepth 20000 in
theorem dX11_wordNow_90 : decode cX11_wordNow 90 = .ok (.bipush 101, 2) := by decide +kernel
set_option maxRecDepth 20000 in
theorem dX11_wordNow_92 : decode cX11_wordNow 92 = .ok (.bipush 114, 2) := by decide +kernel
set_option maxRecDepth 20000 in
theorem dX11_wordNow_94 : decode cX11_wordNow 94 = .ok (.iconst 0, 1) := by decide +kernel
set_option maxRecDepth 20000 in
theorem dX11_wordNow_95 : decode cX11_wordNow 95 = .ok (.invokevirtual 119, 3) := by decide +kernel
set_option maxRecDepth 20000 in
theorem dX11_wordNow_98 : decode cX11_wordNow 98 = .ok (.ifCond .eq 7, 3) := by decide +kernel
set_option maxRecDepth 20000 in
theorem dX11_wordNow_101 : decode cX11_wordNow 101 = .ok (.iconst 4, 1) := by decide +kernel
set_option maxRecDepth 20000 in
theorem dX11_wordNow_102 : decode cX11_wordNow 102 = .ok (.goto 4, 3) := by decide +kernel
set_option maxRecDepth 20000 in
theorem dX11_wordNow_105 : decode cX11_wordNow 105 = .ok (.iconst (-1), 1) := by decide +kernel
set_option maxRecDepth 20000 in
theorem dX11_wordNow_106 : decode cX11_wordNow 106 = .ok (.ireturn, 1) := by decide +kernel
set_option maxRecDepth 20000 in
theorem dX11_takesNumber_0 : decode cX11_takesNumber 0 = .ok (.aload_n 0, 1) := by decide +kernel
set_option maxRecDepth 20000 in
theorem dX11_takesNumber_1 : decode cX11_takesNumber 1 = .ok (.invokevirtual 123, 3) := by decide +kernel
set_option maxRecDepth 20000 in
theorem dX11_takesNumber_4 : decode cX11_takesNumber 4 = .ok (.aload_n 0, 1) := by decide +kernel
set_option maxRecDepth 20000 in
theorem dX11_takesNumber_5 : decode cX11_takesNumber 5 = .ok (.iconst 0, 1) := by decide +kernel
set_option maxRecDepth 20000 in
theorem dX11_takesNumber_6 : decode cX11_takesNumber 6 = .ok (.putfield 126, 3) := by decide +kernel
set_option maxRecDepth 20000 in
theorem dX11_takesNumber_9 : decode cX11_takesNumber 9 = .ok (.aload_n 0, 1) := by decide +kernel
set_option maxRecDepth 20000 in
theorem dX11_takesNumber_10 : decode cX11_takesNumber 10 = .ok (.getfield 116, 3) := by decide +kernel
set_option maxRecDepth 20000 in
theorem dX11_takesNumber_13 : decode cX11_takesNumber 13 = .ok (.ifCond .eq 16, 3) := by decide +kernel
set_option maxRecDepth 20000 in
theorem dX11_takesNumber_16 : decode cX11_takesNumber 16 = .ok (.aload_n 0, 1) := by decide +kernel
set_option maxRecDepth 20000 in
theorem dX11_takesNumber_17 : decode cX11_takesNumber 17 = .ok (.getfield 94, 3) := by decide +kernel
set_option maxRecDepth 20000 in
theorem dX11_takesNumber_20 : decode cX11_takesNumber 20 = .ok (.aload_n 0, 1) := by decide +kernel
set_option maxRecDepth 20000 in
theorem dX11_takesNumber_21 : decode cX11_takesNumber 21 = .ok (.getfield 101, 3) := by decide +kernel
set_option maxRecDepth 20000 in
theorem dX11_takesNumber_24 : decode cX11_takesNumber 24 = .ok (.isub, 1) := by decide +kernel
set_option maxRecDepth 20000 in
theorem dX11_takesNumber_25 : decode cX11_takesNumber 25 = .ok (.iconst 2, 1) := by decide +kernel
set_option maxRecDepth 20000 in
theorem dX11_takesNumber_26 : decode cX11_takesNumber 26 = .ok (.if_icmp .le 5, 3) := by decide +kernel
set_option maxRecDepth 20000 in
theorem dX11_takesNumber_29 : decode cX11_takesNumber 29 = .ok (.iconst 0, 1) := by decide +kernel
set_option maxRecDepth 20000 in
theorem dX11_takesNumber_30 : decode cX11_takesNumber 30 = .ok (.ireturn, 1) := by decide +kernel
set_option maxRecDepth 20000 in
theorem dX11_takesNumber_31 : decode cX11_takesNumber 31 = .ok (.aload_n 0, 1) := by decide +kernel
set_option maxRecDepth 20000 in
theorem dX11_takesNumber_32 : decode cX11_takesNumber 32 = .ok (.getfield 101, 3) := by decide +kernel
set_option maxRecDepth 20000 in
theorem dX11_takesNumber_35 : decode cX11_takesNumber 35 = .ok (.istore_n 3, 1) := by decide +kernel
set_option maxRecDepth 20000 in
theorem dX11_takesNumber_36 : decode cX11_takesNumber 36 = .ok (.iload_n 3, 1) := by decide +kernel
set_option maxRecDepth 20000 in
theorem dX11_takesNumber_37 : decode cX11_takesNumber 37 = .ok (.aload_n 0, 1) := by decide +kernel
set_option maxRecDepth 20000 in
theorem dX11_takesNumber_38 : decode cX11_takesNumber 38 = .ok (.getfield 94, 3) := by decide +kernel
set_option maxRecDepth 20000 in
theorem dX11_takesNumber_41 : decode cX11_takesNumber 41 = .ok (.if_icmp .ge 29, 3) := by decide +kernel
set_option maxRecDepth 20000 in
theorem dX11_takesNumber_44 : decode cX11_takesNumber 44 = .ok (.aload_n 0, 1) := by decide +kernel
set_option maxRecDepth 20000 in
theorem dX11_takesNumber_45 : decode cX11_takesNumber 45 = .ok (.bipush 10, 2) := by decide +kernel
set_option maxRecDepth 20000 in
theorem dX11_takesNumber_47 : decode cX11_takesNumber 47 = .ok (.aload_n 0, 1) := by decide +kernel
set_option maxRecDepth 20000 in
theorem dX11_takesNumber_48 : decode cX11_takesNumber 48 = .ok (.getfield 126, 3) := by decide +kernel
set_option maxRecDepth 20000 in
theorem dX11_takesNumber_51 : decode cX11_takesNumber 51 = .ok (.imul, 1) := by decide +kernel
set_option maxRecDepth 20000 in
theorem dX11_takesNumber_52 : decode cX11_takesNumber 52 = .ok (.aload_n 0, 1) := by decide +kernel
set_option maxRecDepth 20000 in
theorem dX11_takesNumber_53 : decode cX11_takesNumber 53 = .ok (.iload_n 3, 1) := by decide +kernel
set_option maxRecDepth 20000 in
theorem dX11_takesNumber_54 : decode cX11_takesNumber 54 = .ok (.invokevirtual 97, 3) := by decide +kernel
set_option maxRecDepth 20000 in
theorem dX11_takesNumber_57 : decode cX11_takesNumber 57 = .ok (.iadd, 1) := by decide +kernel
set_option maxRecDepth 20000 in
theorem dX11_takesNumber_58 : decode cX11_takesNumber 58 = .ok (.bipush 48, 2) := by decide +kernel
set_option maxRecDepth 20000 in
theorem dX11_takesNumber_60 : decode cX11_takesNumber 60 = .ok (.isub, 1) := by decide +kernel
set_option maxRecDepth 20000 in
theorem dX11_takesNumber_61 : decode cX11_takesNumber 61 = .ok (.putfield 126, 3) := by decide +kernel
set_option maxRecDepth 20000 in
theorem dX11_takesNumber_64 : decode cX11_takesNumber 64 = .ok (.iinc 3 1, 3) := by decide +kernel
set_option maxRecDepth 20000 in
theorem dX11_takesNumber_67 : decode cX11_takesNumber 67 = .ok (.goto (-31), 3) := by decide +kernel
set_option maxRecDepth 20000 in
theorem dX11_takesNumber_70 : decode cX11_takesNumber 70 = .ok (.aload_n 0, 1) := by decide +kernel
set_option maxRecDepth 20000 in
theorem dX11_takesNumber_71 : decode cX11_takesNumber 71 = .ok (.getfield 126, 3) := by decide +kernel
set_option maxRecDepth 20000 in
theorem dX11_takesNumber_74 : decode cX11_takesNumber 74 = .ok (.i2l, 1) := by decide +kernel
set_option maxRecDepth 20000 in
theorem dX11_takesNumber_75 : decode cX11_takesNumber 75 = .ok (.iload_n 1, 1) := by decide +kernel
set_option maxRecDepth 20000 in
theorem dX11_takesNumber_76 : decode cX11_takesNumber 76 = .ok (.i2l, 1) := by decide +kernel
set_option maxRecDepth 20000 in
theorem dX11_takesNumber_77 : decode cX11_takesNumber 77 = .ok (.iload_n 2, 1) := by decide +kernel
set_option maxRecDepth 20000 in
theorem dX11_takesNumber_78 : decode cX11_takesNumber 78 = .ok (.i2l, 1) := by decide +kernel
set_option maxRecDepth 20000 in
theorem dX11_takesNumber_79 : decode cX11_takesNumber 79 = .ok (.invokestatic 51, 3) := by decide +kernel
set_option maxRecDepth 20000 in
theorem dX11_takesNumber_82 : decode cX11_takesNumber 82 = .ok (.ireturn, 1) := by decide +kernel
set_option maxRecDepth 20000 in
theorem dX11_takesHourAnd_0 : decode cX11_takesHourAnd 0 = .ok (.aload_n 0, 1) := by decide +kernel
set_option maxRecDepth 20000 in
theorem dX11_takesHourAnd_1 : decode cX11_takesHourAnd 1 = .ok (.iconst 0, 1) := by decide +kernel
set_option maxRecDepth 20000 in
theorem dX11_takesHourAnd_2 : decode cX11_takesHourAnd 2 = .ok (.bipush 9, 2) := by decide +kernel
set_option maxRecDepth 20000 in
theorem dX11_takesHourAnd_4 : decode cX11_takesHourAnd 4 = .ok (.invokevirtual 129, 3) := by decide +kernel
set_option maxRecDepth 20000 in
theorem dX11_takesHourAnd_7 : decode cX11_takesHourAnd 7 = .ok (.ifCond .ne 5, 3) := by decide +kernel
set_option maxRecDepth 20000 in
theorem dX11_takesHourAnd_10 : decode cX11_takesHourAnd 10 = .ok (.iconst 0, 1) := by decide +kernel
set_option maxRecDepth 20000 in
theorem dX11_takesHourAnd_11 : decode cX11_takesHourAnd 11 = .ok (.ireturn, 1) := by decide +kernel
set_option maxRecDepth 20000 in
theorem dX11_takesHourAnd_12 : decode cX11_takesHourAnd 12 = .ok (.aload_n 0, 1) := by decide +kernel
set_option maxRecDepth 20000 in
theorem dX11_takesHourAnd_13 : decode cX11_takesHourAnd 13 = .ok (.getfield 126, 3) := by decide +kernel
set_option maxRecDepth 20000 in
theorem dX11_takesHourAnd_16 : decode cX11_takesHourAnd 16 = .ok (.istore_n 2, 1) := by decide +kernel
set_option maxRecDepth 20000 in
theorem dX11_takesHourAnd_17 : decode cX11_takesHourAnd 17 = .ok (.iload_n 1, 1) := by decide +kernel
set_option maxRecDepth 20000 in
theorem dX11_takesHourAnd_18 : decode cX11_takesHourAnd 18 = .ok (.iconst 3, 1) := by decide +kernel
set_option maxRecDepth 20000 in
theorem dX11_takesHourAnd_19 : decode cX11_takesHourAnd 19 = .ok (.if_icmp .ne 19, 3) := by decide +kernel
set_option maxRecDepth 20000 in
theorem dX11_takesHourAnd_22 : decode cX11_takesHourAnd 22 = .ok (.aload_n 0, 1) := by decide +kernel
set_option maxRecDepth 20000 in
theorem dX11_takesHourAnd_23 : decode cX11_takesHourAnd 23 = .ok (.getfield 7, 3) := by decide +kernel
set_option maxRecDepth 20000 in
theorem dX11_takesHourAnd_26 : decode cX11_takesHourAnd 26 = .ok (.sipush 458, 3) := by decide +kernel
set_option maxRecDepth 20000 in
theorem dX11_takesHourAnd_29 : decode cX11_takesHourAnd 29 = .ok (.dup2, 1) := by decide +kernel
set_option maxRecDepth 20000 in
theorem dX11_takesHourAnd_30 : decode cX11_takesHourAnd 30 = .ok (.iaload, 1) := by decide +kernel
set_option maxRecDepth 20000 in
theorem dX11_takesHourAnd_31 : decode cX11_takesHourAnd 31 = .ok (.iconst 1, 1) := by decide +kernel
set_option maxRecDepth 20000 in
theorem dX11_takesHourAnd_32 : decode cX11_takesHourAnd 32 = .ok (.iload_n 2, 1) := by decide +kernel
set_option maxRecDepth 20000 in
theorem dX11_takesHourAnd_33 : decode cX11_takesHourAnd 33 = .ok (.ishl, 1) := by decide +kernel
set_option maxRecDepth 20000 in
theorem dX11_takesHourAnd_34 : decode cX11_takesHourAnd 34 = .ok (.ior, 1) := by decide +kernel
set_option maxRecDepth 20000 in
theorem dX11_takesHourAnd_35 : decode cX11_takesHourAnd 35 = .ok (.iastore, 1) := by decide +kernel
set_option maxRecDepth 20000 in
theorem dX11_takesHourAnd_36 : decode cX11_takesHourAnd 36 = .ok (.iconst 1, 1) := by decide +kernel
set_option maxRecDepth 20000 in
theorem dX11_takesHourAnd_37 : decode cX11_takesHourAnd 37 = .ok (.ireturn, 1) := by decide +kernel
set_option maxRecDepth 20000 in
theorem dX11_takesHourAnd_38 : decode cX11_takesHourAnd 38 = .ok (.aload_n 0, 1) := by decide +kernel
set_option maxRecDepth 20000 in
theorem dX11_takesHourAnd_39 : decode cX11_takesHourAnd 39 = .ok (.iconst 0, 1) := by decide +kernel
set_option maxRecDepth 20000 in
theorem dX11_takesHourAnd_40 : decode cX11_takesHourAnd 40 = .ok (.bipush 99, 2) := by decide +kernel
set_option maxRecDepth 20000 in
theorem dX11_takesHourAnd_42 : decode cX11_takesHourAnd 42 = .ok (.invokevirtual 129, 3) := by decide +kernel
set_option maxRecDepth 20000 in
theorem dX11_takesHourAnd_45 : decode cX11_takesHourAnd 45 = .ok (.ifCond .ne 5, 3) := by decide +kernel
set_option maxRecDepth 20000 in
theorem dX11_takesHourAnd_48 : decode cX11_takesHourAnd 48 = .ok (.iconst 0, 1) := by decide +kernel
set_option maxRecDepth 20000 in
theorem dX11_takesHourAnd_49 : decode cX11_takesHourAnd 49 = .ok (.ireturn, 1) := by decide +kernel
set_option maxRecDepth 20000 in
theorem dX11_takesHourAnd_50 : decode cX11_takesHourAnd 50 = .ok (.iload_n 1, 1) := by decide +kernel
set_option maxRecDepth 20000 in
theorem dX11_takesHourAnd_51 : decode cX11_takesHourAnd 51 = .ok (.iconst 1, 1) := by decide +kernel
set_option maxRecDepth 20000 in
theorem dX11_takesHourAnd_52 : decode cX11_takesHourAnd 52 = .ok (.if_icmp .ne 18, 3) := by decide +kernel
set_option maxRecDepth 20000 in
theorem dX11_takesHourAnd_55 : decode cX11_takesHourAnd 55 = .ok (.aload_n 0, 1) := by decide +kernel
set_option maxRecDepth 20000 in
theorem dX11_takesHourAnd_56 : decode cX11_takesHourAnd 56 = .ok (.sipush 456, 3) := by decide +kernel
set_option maxRecDepth 20000 in
theorem dX11_takesHourAnd_59 : decode cX11_takesHourAnd 59 = .ok (.iload_n 2, 1) := by decide +kernel
set_option maxRecDepth 20000 in
theorem dX11_takesHourAnd_60 : decode cX11_takesHourAnd 60 = .ok (.aload_n 0, 1) := by decide +kernel
set_option maxRecDepth 20000 in
theorem dX11_takesHourAnd_61 : decode cX11_takesHourAnd 61 = .ok (.getfield 126, 3) := by decide +kernel
set_option maxRecDepth 20000 in
theorem dX11_takesHourAnd_64 : decode cX11_takesHourAnd 64 = .ok (.invokevirtual 72, 3) := by decide +kernel
set_option maxRecDepth 20000 in
theorem dX11_takesHourAnd_67 : decode cX11_takesHourAnd 67 = .ok (.goto 17, 3) := by decide +kernel
set_option maxRecDepth 20000 in
theorem dX11_takesHourAnd_70 : decode cX11_takesHourAnd 70 = .ok (.aload_n 0, 1) := by decide +kernel
set_option maxRecDepth 20000 in
theorem dX11_takesHourAnd_71 : decode cX11_takesHourAnd 71 = .ok (.getfield 7, 3) := by decide +kernel
set_option maxRecDepth 20000 in
theorem dX11_takesHourAnd_74 : decode cX11_takesHourAnd 74 = .ok (.sipush 474, 3) := by decide +kernel
set_option maxRecDepth 20000 in
theorem dX11_takesHourAnd_77 : decode cX11_takesHourAnd 77 = .ok (.iload_n 2, 1) := by decide +kernel
set_option maxRecDepth 20000 in
theorem dX11_takesHourAnd_78 : decode cX11_takesHourAnd 78 = .ok (.iadd, 1) := by decide +kernel
set_option maxRecDepth 20000 in
theorem dX11_takesHourAnd_79 : decode cX11_takesHourAnd 79 = .ok (.aload_n 0, 1) := by decide +kernel
set_option maxRecDepth 20000 in
theorem dX11_takesHourAnd_80 : decode cX11_takesHourAnd 80 = .ok (.getfield 126, 3) := by decide +kernel
set_option maxRecDepth 20000 in
theorem dX11_takesHourAnd_83 : decode cX11_takesHourAnd 83 = .ok (.iastore, 1) := by decide +kernel
set_option maxRecDepth 20000 in
theorem dX11_takesHourAnd_84 : decode cX11_takesHourAnd 84 = .ok (.iconst 1, 1) := by decide +kernel
set_option maxRecDepth 20000 in
theorem dX11_takesHourAnd_85 : decode cX11_takesHourAnd 85 = .ok (.ireturn, 1) := by decide +kernel
set_option maxRecDepth 20000 in
theorem dX11_takesBuyer_0 : decode cX11_takesBuyer 0 = .ok (.aload_n 0, 1) := by decide +kernel
set_option maxRecDepth 20000 in
theorem dX11_takesBuyer_1 : decode cX11_takesBuyer 1 = .ok (.getfield 7, 3) := by decide +kernel
set_option maxRecDepth 20000 in
theorem dX11_takesBuyer_4 : decode cX11_takesBuyer 4 = .ok (.sipush 459, 3) := by decide +kernel
set_option maxRecDepth 20000 in
theorem dX11_takesBuyer_7 : decode cX11_takesBuyer 7 = .ok (.iaload, 1) := by decide +kernel
set_option maxRecDepth 20000 in
theorem dX11_takesBuyer_8 : decode cX11_takesBuyer 8 = .ok (.bipush 8, 2) := by decide +kernel
set_option maxRecDepth 20000 in
theorem dX11_takesBuyer_10 : decode cX11_takesBuyer 10 = .ok (.if_icmp .eq 12, 3) := by decide +kernel
set_option maxRecDepth 20000 in
theorem dX11_takesBuyer_13 : decode cX11_takesBuyer 13 = .ok (.aload_n 0, 1) := by decide +kernel
set_option maxRecDepth 20000 in
theorem dX11_takesBuyer_14 : decode cX11_takesBuyer 14 = .ok (.iconst 0, 1) := by decide +kernel
set_option maxRecDepth 20000 in
theorem dX11_takesBuyer_15 : decode cX11_takesBuyer 15 = .ok (.iconst 5, 1) := by decide +kernel
set_option maxRecDepth 20000 in
theorem dX11_takesBuyer_16 : decode cX11_takesBuyer 16 = .ok (.invokevirtual 129, 3) := by decide +kernel
set_option maxRecDepth 20000 in
theorem dX11_takesBuyer_19 : decode cX11_takesBuyer 19 = .ok (.ifCond .ne 5, 3) := by decide +kernel
set_option maxRecDepth 20000 in
theorem dX11_takesBuyer_22 : decode cX11_takesBuyer 22 = .ok (.iconst 0, 1) := by decide +kernel
set_option maxRecDepth 20000 in
theorem dX11_takesBuyer_23 : decode cX11_takesBuyer 23 = .ok (.ireturn, 1) := by decide +kernel
set_option maxRecDepth 20000 in
theorem dX11_takesBuyer_24 : decode cX11_takesBuyer 24 = .ok (.aload_n 0, 1) := by decide +kernel
set_option maxRecDepth 20000 in
theorem dX11_takesBuyer_25 : decode cX11_takesBuyer 25 = .ok (.getfield 126, 3) := by decide +kernel
set_option maxRecDepth 20000 in
theorem dX11_takesBuyer_28 : decode cX11_takesBuyer 28 = .ok (.istore_n 1, 1) := by decide +kernel
set_option maxRecDepth 20000 in
theorem dX11_takesBuyer_29 : decode cX11_takesBuyer 29 = .ok (.aload_n 0, 1) := by decide +kernel
set_option maxRecDepth 20000 in
theorem dX11_takesBuyer_30 : decode cX11_takesBuyer 30 = .ok (.iconst 0, 1) := by decide +kernel
set_option maxRecDepth 20000 in
theorem dX11_takesBuyer_31 : decode cX11_takesBuyer 31 = .ok (.bipush 9, 2) := by decide +kernel
set_option maxRecDepth 20000 in
theorem dX11_takesBuyer_33 : decode cX11_takesBuyer 33 = .ok (.invokevirtual 129, 3) := by decide +kernel
set_option maxRecDepth 20000 in
theorem dX11_takesBuyer_36 : decode cX11_takesBuyer 36 = .ok (.ifCond .ne 5, 3) := by decide +kernel
set_option maxRecDepth 20000 in
theorem dX11_takesBuyer_39 : decode cX11_takesBuyer 39 = .ok (.iconst 0, 1) := by decide +kernel
set_option maxRecDepth 20000 in
theorem dX11_takesBuyer_40 : decode cX11_takesBuyer 40 = .ok (.ireturn, 1) := by decide +kernel
set_option maxRecDepth 20000 in
theorem dX11_takesBuyer_41 : decode cX11_takesBuyer 41 = .ok (.aload_n 0, 1) := by decide +kernel
set_option maxRecDepth 20000 in
theorem dX11_takesBuyer_42 : decode cX11_takesBuyer 42 = .ok (.getfield 126, 3) := by decide +kernel
set_option maxRecDepth 20000 in
theorem dX11_takesBuyer_45 : decode cX11_takesBuyer 45 = .ok (.istore_n 2, 1) := by decide +kernel
set_option maxRecDepth 20000 in
theorem dX11_takesBuyer_46 : decode cX11_takesBuyer 46 = .ok (.aload_n 0, 1) := by decide +kernel
set_option maxRecDepth 20000 in
theorem dX11_takesBuyer_47 : decode cX11_takesBuyer 47 = .ok (.iconst 0, 1) := by decide +kernel
set_option maxRecDepth 20000 in
theorem dX11_takesBuyer_48 : decode cX11_takesBuyer 48 = .ok (.bipush 99, 2) := by decide +kernel
set_option maxRecDepth 20000 in
theorem dX11_takesBuyer_50 : decode cX11_takesBuyer 50 = .ok (.invokevirtual 129, 3) := by decide +kernel
set_option maxRecDepth 20000 in
theorem dX11_takesBuyer_53 : decode cX11_takesBuyer 53 = .ok (.ifCond .ne 5, 3) := by decide +kernel
set_option maxRecDepth 20000 in
theorem dX11_takesBuyer_56 : decode cX11_takesBuyer 56 = .ok (.iconst 0, 1) := by decide +kernel
set_option maxRecDepth 20000 in
theorem dX11_takesBuyer_57 : decode cX11_takesBuyer 57 = .ok (.ireturn, 1) := by decide +kernel
set_option maxRecDepth 20000 in
theorem dX11_takesBuyer_58 : decode cX11_takesBuyer 58 = .ok (.aload_n 0, 1) := by decide +kernel
set_option maxRecDepth 20000 in
theorem dX11_takesBuyer_59 : decode cX11_takesBuyer 59 = .ok (.getfield 126, 3) := by decide +kernel
set_option maxRecDepth 20000 in
theorem dX11_takesBuyer_62 : decode cX11_takesBuyer 62 = .ok (.istore_n 3, 1) := by decide +kernel
set_option maxRecDepth 20000 in
theorem dX11_takesBuyer_63 : decode cX11_takesBuyer 63 = .ok (.aload_n 0, 1) := by decide +kernel
set_option maxRecDepth 20000 in
theorem dX11_takesBuyer_64 : decode cX11_takesBuyer 64 = .ok (.iconst 1, 1) := by decide +kernel
set_option maxRecDepth 20000 in
theorem dX11_takesBuyer_65 : decode cX11_takesBuyer 65 = .ok (.iconst 3, 1) := by decide +kernel
set_option maxRecDepth 20000 in
theorem dX11_takesBuyer_66 : decode cX11_takesBuyer 66 = .ok (.invokevirtual 129, 3) := by decide +kernel
set_option maxRecDepth 20000 in
theorem dX11_takesBuyer_69 : decode cX11_takesBuyer 69 = .ok (.ifCond .eq 24, 3) := by decide +kernel
set_option maxRecDepth 20000 in
theorem dX11_takesBuyer_72 : decode cX11_takesBuyer 72 = .ok (.aload_n 0, 1) := by decide +kernel
set_option maxRecDepth 20000 in
theorem dX11_takesBuyer_73 : decode cX11_takesBuyer 73 = .ok (.sipush 456, 3) := by decide +kernel
set_option maxRecDepth 20000 in
theorem dX11_takesBuyer_76 : decode cX11_takesBuyer 76 = .ok (.iload_n 1, 1) := by decide +kernel
set_option maxRecDepth 20000 in
theorem dX11_takesBuyer_77 : decode cX11_takesBuyer 77 = .ok (.iload_n 2, 1) := by decide +kernel
set_option maxRecDepth 20000 in
theorem dX11_takesBuyer_78 : decode cX11_takesBuyer 78 = .ok (.iload_n 3, 1) := by decide +kernel
set_option maxRecDepth 20000 in
theorem dX11_takesBuyer_79 : decode cX11_takesBuyer 79 = .ok (.aload_n 0, 1) := by decide +kernel
set_option maxRecDepth 20000 in
theorem dX11_takesBuyer_80 : decode cX11_takesBuyer 80 = .ok (.getfield 126, 3) := by decide +kernel
set_option maxRecDepth 20000 in
theorem dX11_takesBuyer_83 : decode cX11_takesBuyer 83 = .ok (.invokevirtual 84, 3) := by decide +kernel
set_option maxRecDepth 20000 in
theorem dX11_takesBuyer_86 : decode cX11_takesBuyer 86 = .ok (.ifCond .lt 7, 3) := by decide +kernel
set_option maxRecDepth 20000 in
theorem dX11_takesBuyer_89 : decode cX11_takesBuyer 89 = .ok (.iconst 1, 1) := by decide +kernel
set_option maxRecDepth 20000 in
theorem dX11_takesBuyer_90 : decode cX11_takesBuyer 90 = .ok (.goto 4, 3) := by decide +kernel
set_option maxRecDepth 20000 in
theorem dX11_takesBuyer_93 : decode cX11_takesBuyer 93 = .ok (.iconst 0, 1) := by decide +kernel
set_option maxRecDepth 20000 in
theorem dX11_takesBuyer_94 : decode cX11_takesBuyer 94 = .ok (.ireturn, 1) := by decide +kernel
set_option maxRecDepth 20000 in
theorem dX11_takesMarket_0 : decode cX11_takesMarket 0 = .ok (.aload_n 0, 1) := by decide +kernel
set_option maxRecDepth 20000 in
theorem dX11_takesMarket_1 : decode cX11_takesMarket 1 = .ok (.iconst 0, 1) := by decide +kernel
set_option maxRecDepth 20000 in
theorem dX11_takesMarket_2 : decode cX11_takesMarket 2 = .ok (.bipush 99, 2) := by decide +kernel
set_option maxRecDepth 20000 in
theorem dX11_takesMarket_4 : decode cX11_takesMarket 4 = .ok (.invokevirtual 129, 3) := by decide +kernel
set_option maxRecDepth 20000 in
theorem dX11_takesMarket_7 : decode cX11_takesMarket 7 = .ok (.ifCond .ne 5, 3) := by decide +kernel
set_option maxRecDepth 20000 in
theorem dX11_takesMarket_10 : decode cX11_takesMarket 10 = .ok (.iconst 0, 1) := by decide +kernel
set_option maxRecDepth 20000 in
theorem dX11_takesMarket_11 : decode cX11_takesMarket 11 = .ok (.ireturn, 1) := by decide +kernel
set_option maxRecDepth 20000 in
theorem dX11_takesMarket_12 : decode cX11_takesMarket 12 = .ok (.aload_n 0, 1) := by decide +kernel
set_option maxRecDepth 20000 in
theorem dX11_takesMarket_13 : decode cX11_takesMarket 13 = .ok (.getfield 126, 3) := by decide +kernel
set_option maxRecDepth 20000 in
theorem dX11_takesMarket_16 : decode cX11_takesMarket 16 = .ok (.istore_n 1, 1) := by decide +kernel
set_option maxRecDepth 20000 in
theorem dX11_takesMarket_17 : decode cX11_takesMarket 17 = .ok (.aload_n 0, 1) := by decide +kernel
set_option maxRecDepth 20000 in
theorem dX11_takesMarket_18 : decode cX11_takesMarket 18 = .ok (.iconst 0, 1) := by decide +kernel
set_option maxRecDepth 20000 in
theorem dX11_takesMarket_19 : decode cX11_takesMarket 19 = .ok (.bipush 9, 2) := by decide +kernel
set_option maxRecDepth 20000 in
theorem dX11_takesMarket_21 : decode cX11_takesMarket 21 = .ok (.invokevirtual 129, 3) := by decide +kernel
set_option maxRecDepth 20000 in
theorem dX11_takesMarket_24 : decode cX11_takesMarket 24 = .ok (.ifCond .ne 5, 3) := by decide +kernel
set_option maxRecDepth 20000 in
theorem dX11_takesMarket_27 : decode cX11_takesMarket 27 = .ok (.iconst 0, 1) := by decide +kernel
set_option maxRecDepth 20000 in
theorem dX11_takesMarket_28 : decode cX11_takesMarket 28 = .ok (.ireturn, 1) := by decide +kernel
set_option maxRecDepth 20000 in
theorem dX11_takesMarket_29 : decode cX11_takesMarket 29 = .ok (.aload_n 0, 1) := by decide +kernel
set_option maxRecDepth 20000 in
theorem dX11_takesMarket_30 : decode cX11_takesMarket 30 = .ok (.sipush 456, 3) := by decide +kernel
set_option maxRecDepth 20000 in
theorem dX11_takesMarket_33 : decode cX11_takesMarket 33 = .ok (.iload_n 1, 1) := by decide +kernel
set_option maxRecDepth 20000 in
theorem dX11_takesMarket_34 : decode cX11_takesMarket 34 = .ok (.aload_n 0, 1) := by decide +kernel
set_option maxRecDepth 20000 in
theorem dX11_takesMarket_35 : decode cX11_takesMarket 35 = .ok (.getfield 126, 3) := by decide +kernel
set_option maxRecDepth 20000 in
theorem dX11_takesMarket_38 : decode cX11_takesMarket 38 = .ok (.invokevirtual 45, 3) := by decide +kernel
set_option maxRecDepth 20000 in
theorem dX11_takesMarket_41 : decode cX11_takesMarket 41 = .ok (.iconst 1, 1) := by decide +kernel
set_option maxRecDepth 20000 in
theorem dX11_takesMarket_42 : decode cX11_takesMarket 42 = .ok (.ireturn, 1) := by decide +kernel
set_option maxRecDepth 20000 in
theorem dX11_takesItem_0 : decode cX11_takesItem 0 = .ok (.aload_n 0, 1) := by decide +kernel
set_option maxRecDepth 20000 in
theorem dX11_takesItem_1 : decode cX11_takesItem 1 = .ok (.invokevirtual 133, 3) := by decide +kernel
set_option maxRecDepth 20000 in
theorem dX11_takesItem_4 : decode cX11_takesItem 4 = .ok (.istore_n 2, 1) := by decide +kernel
set_option maxRecDepth 20000 in
theorem dX11_takesItem_5 : decode cX11_takesItem 5 = .ok (.iload_n 2, 1) := by decide +kernel
set_option maxRecDepth 20000 in
theorem dX11_takesItem_6 : decode cX11_takesItem 6 = .ok (.iconst (-1), 1) := by decide +kernel
set_option maxRecDepth 20000 in
theorem dX11_takesItem_7 : decode cX11_takesItem 7 = .ok (.if_icmp .eq 24, 3) := by decide +kernel
set_option maxRecDepth 20000 in
theorem dX11_takesItem_10 : decode cX11_takesItem 10 = .ok (.iload_n 2, 1) := by decide +kernel
set_option maxRecDepth 20000 in
theorem dX11_takesItem_11 : decode cX11_takesItem 11 = .ok (.ifCond .ne 7, 3) := by decide +kernel
set_option maxRecDepth 20000 in
theorem dX11_takesItem_14 : decode cX11_takesItem 14 = .ok (.iconst 1, 1) := by decide +kernel
set_option maxRecDepth 20000 in
theorem dX11_takesItem_15 : decode cX11_takesItem 15 = .ok (.goto 4, 3) := by decide +kernel
set_option maxRecDepth 20000 in
theorem dX11_takesItem_18 : decode cX11_takesItem 18 = .ok (.iconst 0, 1) := by decide +kernel
set_option maxRecDepth 20000 in
theorem dX11_takesItem_19 : decode cX11_takesItem 19 = .ok (.iload_n 1, 1) := by decide +kernel
set_option maxRecDepth 20000 in
theorem dX11_takesItem_20 : decode cX11_takesItem 20 = .ok (.ifCond .ne 7, 3) := by decide +kernel
set_option maxRecDepth 20000 in
theorem dX11_takesItem_23 : decode cX11_takesItem 23 = .ok (.iconst 1, 1) := by decide +kernel
set_option maxRecDepth 20000 in
theorem dX11_takesItem_24 : decode cX11_takesItem 24 = .ok (.goto 4, 3) := by decide +kernel
set_option maxRecDepth 20000 in
theorem dX11_takesItem_27 : decode cX11_takesItem 27 = .ok (.iconst 0, 1) := by decide +kernel
set_option maxRecDepth 20000 in
theorem dX11_takesItem_28 : decode cX11_takesItem 28 = .ok (.if_icmp .eq 5, 3) := by decide +kernel
set_option maxRecDepth 20000 in
theorem dX11_takesItem_31 : decode cX11_takesItem 31 = .ok (.iconst 0, 1) := by decide +kernel
set_option maxRecDepth 20000 in
theorem dX11_takesItem_32 : decode cX11_takesItem 32 = .ok (.ireturn, 1) := by decide +kernel
set_option maxRecDepth 20000 in
theorem dX11_takesItem_33 : decode cX11_takesItem 33 = .ok (.iload_n 2, 1) := by decide +kernel
set_option maxRecDepth 20000 in
theorem dX11_takesItem_34 : decode cX11_takesItem 34 = .ok (.ifCond .ne 10, 3) := by decide +kernel
set_option maxRecDepth 20000 in
theorem dX11_takesItem_37 : decode cX11_takesItem 37 = .ok (.aload_n 0, 1) := by decide +kernel
set_option maxRecDepth 20000 in
theorem dX11_takesItem_38 : decode cX11_takesItem 38 = .ok (.invokevirtual 136, 3) := by decide +kernel
set_option maxRecDepth 20000 in
theorem dX11_takesItem_41 : decode cX11_takesItem 41 = .ok (.goto 20, 3) := by decide +kernel
set_option maxRecDepth 20000 in
theorem dX11_takesItem_44 : decode cX11_takesItem 44 = .ok (.iload_n 2, 1) := by decide +kernel
set_option maxRecDepth 20000 in
theorem dX11_takesItem_45 : decode cX11_takesItem 45 = .ok (.iconst 4, 1) := by decide +kernel
set_option maxRecDepth 20000 in
theorem dX11_takesItem_46 : decode cX11_takesItem 46 = .ok (.if_icmp .ne 10, 3) := by decide +kernel
set_option maxRecDepth 20000 in
theorem dX11_takesItem_49 : decode cX11_takesItem 49 = .ok (.aload_n 0, 1) := by decide +kernel
set_option maxRecDepth 20000 in
theorem dX11_takesItem_50 : decode cX11_takesItem 50 = .ok (.invokevirtual 140, 3) := by decide +kernel
set_option maxRecDepth 20000 in
theorem dX11_takesItem_53 : decode cX11_takesItem 53 = .ok (.goto 8, 3) := by decide +kernel
set_option maxRecDepth 20000 in
theorem dX11_takesItem_56 : decode cX11_takesItem 56 = .ok (.aload_n 0, 1) := by decide +kernel
set_option maxRecDepth 20000 in
theorem dX11_takesItem_57 : decode cX11_takesItem 57 = .ok (.iload_n 2, 1) := by decide +kernel
set_option maxRecDepth 20000 in
theorem dX11_takesItem_58 : decode cX11_takesItem 58 = .ok (.invokevirtual 143, 3) := by decide +kernel
set_option maxRecDepth 20000 in
theorem dX11_takesItem_61 : decode cX11_takesItem 61 = .ok (.istore_n 3, 1) := by decide +kernel
set_option maxRecDepth 20000 in
theorem dX11_takesItem_62 : decode cX11_takesItem 62 = .ok (.iload_n 3, 1) := by decide +kernel
set_option maxRecDepth 20000 in
theorem dX11_takesItem_63 : decode cX11_takesItem 63 = .ok (.ifCond .ne 5, 3) := by decide +kernel
set_option maxRecDepth 20000 in
theorem dX11_takesItem_66 : decode cX11_takesItem 66 = .ok (.iconst 0, 1) := by decide +kernel
set_option maxRecDepth 20000 in
theorem dX11_takesItem_67 : decode cX11_takesItem 67 = .ok (.ireturn, 1) := by decide +kernel
set_option maxRecDepth 20000 in
theorem dX11_takesItem_68 : decode cX11_takesItem 68 = .ok (.aload_n 0, 1) := by decide +kernel
set_option maxRecDepth 20000 in
theorem dX11_takesItem_69 : decode cX11_takesItem 69 = .ok (.invokevirtual 123, 3) := by decide +kernel
set_option maxRecDepth 20000 in
theorem dX11_takesItem_72 : decode cX11_takesItem 72 = .ok (.aload_n 0, 1) := by decide +kernel
set_option maxRecDepth 20000 in
theorem dX11_takesItem_73 : decode cX11_takesItem 73 = .ok (.aload_n 0, 1) := by decide +kernel
set_option maxRecDepth 20000 in
theorem dX11_takesItem_74 : decode cX11_takesItem 74 = .ok (.getfield 101, 3) := by decide +kernel
set_option maxRecDepth 20000 in
theorem dX11_takesItem_77 : decode cX11_takesItem 77 = .ok (.invokevirtual 97, 3) := by decide +kernel
set_option maxRecDepth 20000 in
theorem dX11_takesItem_80 : decode cX11_takesItem 80 = .ok (.bipush 59, 2) := by decide +kernel
set_option maxRecDepth 20000 in
theorem dX11_takesItem_82 : decode cX11_takesItem 82 = .ok (.if_icmp .ne 7, 3) := by decide +kernel
set_option maxRecDepth 20000 in
theorem dX11_takesItem_85 : decode cX11_takesItem 85 = .ok (.iconst 1, 1) := by decide +kernel
set_option maxRecDepth 20000 in
theorem dX11_takesItem_86 : decode cX11_takesItem 86 = .ok (.goto 4, 3) := by decide +kernel
set_option maxRecDepth 20000 in
theorem dX11_takesItem_89 : decode cX11_takesItem 89 = .ok (.iconst 0, 1) := by decide +kernel
set_option maxRecDepth 20000 in
theorem dX11_takesItem_90 : decode cX11_takesItem 90 = .ok (.ireturn, 1) := by decide +kernel
set_option maxRecDepth 20000 in
theorem dX11_read_0 : decode cX11_read 0 = .ok (.aload_n 0, 1) := by decide +kernel
set_option maxRecDepth 20000 in
theorem dX11_read_1 : decode cX11_read 1 = .ok (.iconst 0, 1) := by decide +kernel
set_option maxRecDepth 20000 in
theorem dX11_read_2 : decode cX11_read 2 = .ok (.putfield 94, 3) := by decide +kernel
set_option maxRecDepth 20000 in
theorem dX11_read_5 : decode cX11_read 5 = .ok (.iconst 0, 1) := by decide +kernel
set_option maxRecDepth 20000 in
theorem dX11_read_6 : decode cX11_read 6 = .ok (.istore_n 1, 1) := by decide +kernel
set_option maxRecDepth 20000 in
theorem dX11_read_7 : decode cX11_read 7 = .ok (.aload_n 0, 1) := by decide +kernel
set_option maxRecDepth 20000 in
theorem dX11_read_8 : decode cX11_read 8 = .ok (.invokevirtual 123, 3) := by decide +kernel
set_option maxRecDepth 20000 in
theorem dX11_read_11 : decode cX11_read 11 = .ok (.aload_n 0, 1) := by decide +kernel
set_option maxRecDepth 20000 in
theorem dX11_read_12 : decode cX11_read 12 = .ok (.getfield 101, 3) := by decide +kernel
set_option maxRecDepth 20000 in
theorem dX11_read_15 : decode cX11_read 15 = .ok (.aload_n 0, 1) := by decide +kernel
set_option maxRecDepth 20000 in
theorem dX11_read_16 : decode cX11_read 16 = .ok (.getfield 90, 3) := by decide +kernel
set_option maxRecDepth 20000 in
theorem dX11_read_19 : decode cX11_read 19 = .ok (.if_icmp .lt 7, 3) := by decide +kernel
set_option maxRecDepth 20000 in
theorem dX11_read_22 : decode cX11_read 22 = .ok (.iload_n 1, 1) := by decide +kernel
set_option maxRecDepth 20000 in
theorem dX11_read_23 : decode cX11_read 23 = .ok (.ifCond .ne 29, 3) := by decide +kernel
set_option maxRecDepth 20000 in
theorem dX11_read_26 : decode cX11_read 26 = .ok (.aload_n 0, 1) := by decide +kernel
set_option maxRecDepth 20000 in
theorem dX11_read_27 : decode cX11_read 27 = .ok (.iload_n 1, 1) := by decide +kernel
set_option maxRecDepth 20000 in
theorem dX11_read_28 : decode cX11_read 28 = .ok (.invokevirtual 146, 3) := by decide +kernel
set_option maxRecDepth 20000 in
theorem dX11_read_31 : decode cX11_read 31 = .ok (.ifCond .ne 11, 3) := by decide +kernel
set_option maxRecDepth 20000 in
theorem dX11_read_34 : decode cX11_read 34 = .ok (.bipush (-10), 2) := by decide +kernel
set_option maxRecDepth 20000 in
theorem dX11_read_36 : decode cX11_read 36 = .ok (.aload_n 0, 1) := by decide +kernel
set_option maxRecDepth 20000 in
theorem dX11_read_37 : decode cX11_read 37 = .ok (.getfield 101, 3) := by decide +kernel
set_option maxRecDepth 20000 in
theorem dX11_read_40 : decode cX11_read 40 = .ok (.isub, 1) := by decide +kernel
set_option maxRecDepth 20000 in
theorem dX11_read_41 : decode cX11_read 41 = .ok (.ireturn, 1) := by decide +kernel
set_option maxRecDepth 20000 in
theorem dX11_read_42 : decode cX11_read 42 = .ok (.iinc 1 1, 3) := by decide +kernel
set_option maxRecDepth 20000 in
theorem dX11_read_45 : decode cX11_read 45 = .ok (.aload_n 0, 1) := by decide +kernel
set_option maxRecDepth 20000 in
theorem dX11_read_46 : decode cX11_read 46 = .ok (.invokevirtual 123, 3) := by decide +kernel
set_option maxRecDepth 20000 in
theorem dX11_read_49 : decode cX11_read 49 = .ok (.goto (-38), 3) := by decide +kernel
set_option maxRecDepth 20000 in
theorem dX11_read_52 : decode cX11_read 52 = .ok (.aload_n 0, 1) := by decide +kernel
set_option maxRecDepth 20000 in
theorem dX11_read_53 : decode cX11_read 53 = .ok (.sipush 456, 3) := by decide +kernel
set_option maxRecDepth 20000 in
theorem dX11_read_56 : decode cX11_read 56 = .ok (.iconst 0, 1) := by decide +kernel
set_option maxRecDepth 20000 in
theorem dX11_read_57 : decode cX11_read 57 = .ok (.invokevirtual 149, 3) := by decide +kernel
set_option maxRecDepth 20000 in
theorem dX11_read_60 : decode cX11_read 60 = .ok (.iload_n 1, 1) := by decide +kernel
set_option maxRecDepth 20000 in
theorem dX11_read_61 : decode cX11_read 61 = .ok (.ireturn, 1) := by decide +kernel
set_option maxRecDepth 20000 in
theorem dX11_waitsIn_0 : decode cX11_waitsIn 0 = .ok (.aload_n 0, 1) := by decide +kernel
set_option maxRecDepth 20000 in
theorem dX11_waitsIn_1 : decode cX11_waitsIn 1 = .ok (.getfield 7, 3) := by decide +kernel
set_option maxRecDepth 20000 in
theorem dX11_waitsIn_4 : decode cX11_waitsIn 4 = .ok (.bipush 36, 2) := by decide +kernel
set_option maxRecDepth 20000 in
theorem dX11_waitsIn_6 : decode cX11_waitsIn 6 = .ok (.iload_n 1, 1) := by decide +kernel
set_option maxRecDepth 20000 in
theorem dX11_waitsIn_7 : decode cX11_waitsIn 7 = .ok (.iadd, 1) := by decide +kernel
set_option maxRecDepth 20000 in
theorem dX11_waitsIn_8 : decode cX11_waitsIn 8 = .ok (.iaload, 1) := by decide +kernel
set_option maxRecDepth 20000 in
theorem dX11_waitsIn_9 : decode cX11_waitsIn 9 = .ok (.istore_n 2, 1) := by decide +kernel
set_option maxRecDepth 20000 in
theorem dX11_waitsIn_10 : decode cX11_waitsIn 10 = .ok (.iload_n 2, 1) := by decide +kernel
set_option maxRecDepth 20000 in
theorem dX11_waitsIn_11 : decode cX11_waitsIn 11 = .ok (.iconst 2, 1) := by decide +kernel
set_option maxRecDepth 20000 in
theorem dX11_waitsIn_12 : decode cX11_waitsIn 12 = .ok (.iadd, 1) := by decide +kernel
set_option maxRecDepth 20000 in
theorem dX11_waitsIn_13 : decode cX11_waitsIn 13 = .ok (.bipush 9, 2) := by decide +kernel
set_option maxRecDepth 20000 in
theorem dX11_waitsIn_15 : decode cX11_waitsIn 15 = .ok (.if_icmp .le 8, 3) := by decide +kernel
set_option maxRecDepth 20000 in
theorem dX11_waitsIn_18 : decode cX11_waitsIn 18 = .ok (.bipush 9, 2) := by decide +kernel
set_option maxRecDepth 20000 in
theorem dX11_waitsIn_20 : decode cX11_waitsIn 20 = .ok (.goto 6, 3) := by decide +kernel
set_option maxRecDepth 20000 in
theorem dX11_waitsIn_23 : decode cX11_waitsIn 23 = .ok (.iload_n 2, 1) := by decide +kernel
set_option maxRecDepth 20000 in
theorem dX11_waitsIn_24 : decode cX11_waitsIn 24 = .ok (.iconst 2, 1) := by decide +kernel
set_option maxRecDepth 20000 in
theorem dX11_waitsIn_25 : decode cX11_waitsIn 25 = .ok (.iadd, 1) := by decide +kernel
set_option maxRecDepth 20000 in
theorem dX11_waitsIn_26 : decode cX11_waitsIn 26 = .ok (.istore_n 3, 1) := by decide +kernel
set_option maxRecDepth 20000 in
theorem dX11_waitsIn_27 : decode cX11_waitsIn 27 = .ok (.aload_n 0, 1) := by decide +kernel
set_option maxRecDepth 20000 in
theorem dX11_waitsIn_28 : decode cX11_waitsIn 28 = .ok (.getfield 7, 3) := by decide +kernel
set_option maxRecDepth 20000 in
theorem dX11_waitsIn_31 : decode cX11_waitsIn 31 = .ok (.bipush 8, 2) := by decide +kernel
set_option maxRecDepth 20000 in
theorem dX11_waitsIn_33 : decode cX11_waitsIn 33 = .ok (.iload_n 3, 1) := by decide +kernel
set_option maxRecDepth 20000 in
theorem dX11_waitsIn_34 : decode cX11_waitsIn 34 = .ok (.iadd, 1) := by decide +kernel
set_option maxRecDepth 20000 in
theorem dX11_waitsIn_35 : decode cX11_waitsIn 35 = .ok (.iaload, 1) := by decide +kernel
set_option maxRecDepth 20000 in
theorem dX11_waitsIn_36 : decode cX11_waitsIn 36 = .ok (.aload_n 0, 1) := by decide +kernel
set_option maxRecDepth 20000 in
theorem dX11_waitsIn_37 : decode cX11_waitsIn 37 = .ok (.getfield 7, 3) := by decide +kernel
set_option maxRecDepth 20000 in
theorem dX11_waitsIn_40 : decode cX11_waitsIn 40 = .ok (.bipush 8, 2) := by decide +kernel
set_option maxRecDepth 20000 in
theorem dX11_waitsIn_42 : decode cX11_waitsIn 42 = .ok (.iload_n 2, 1) := by decide +kernel
set_option maxRecDepth 20000 in
theorem dX11_waitsIn_43 : decode cX11_waitsIn 43 = .ok (.iadd, 1) := by decide +kernel
set_option maxRecDepth 20000 in
theorem dX11_waitsIn_44 : decode cX11_waitsIn 44 = .ok (.iaload, 1) := by decide +kernel
set_option maxRecDepth 20000 in
theorem dX11_waitsIn_45 : decode cX11_waitsIn 45 = .ok (.if_icmp .ge 7, 3) := by decide +kernel
set_option maxRecDepth 20000 in
theorem dX11_waitsIn_48 : decode cX11_waitsIn 48 = .ok (.iload_n 3, 1) := by decide +kernel
set_option maxRecDepth 20000 in
theorem dX11_waitsIn_49 : decode cX11_waitsIn 49 = .ok (.goto 4, 3) := by decide +kernel
set_option maxRecDepth 20000 in
theorem dX11_waitsIn_52 : decode cX11_waitsIn 52 = .ok (.iload_n 2, 1) := by decide +kernel
set_option maxRecDepth 20000 in
theorem dX11_waitsIn_53 : decode cX11_waitsIn 53 = .ok (.ireturn, 1) := by decide +kernel
set_option maxRecDepth 20000 in
theorem dX11_hourOf_0 : decode cX11_hourOf 0 = .ok (.aload_n 0, 1) := by decide +kernel
set_option maxRecDepth 20000 in
theorem dX11_hourOf_1 : decode cX11_hourOf 1 = .ok (.getfield 7, 3) := by decide +kernel
set_option maxRecDepth 20000 in
theorem dX11_hourOf_4 : decode cX11_hourOf 4 = .ok (.bipush 28, 2) := by decide +kernel
set_option maxRecDepth 20000 in
theorem dX11_hourOf_6 : decode cX11_hourOf 6 = .ok (.iload_n 1, 1) := by decide +kernel
set_option maxRecDepth 20000 in
theorem dX11_hourOf_7 : decode cX11_hourOf 7 = .ok (.iadd, 1) := by decide +kernel
set_option maxRecDepth 20000 in
theorem dX11_hourOf_8 : decode cX11_hourOf 8 = .ok (.iaload, 1) := by decide +kernel
set_option maxRecDepth 20000 in
theorem dX11_hourOf_9 : decode cX11_hourOf 9 = .ok (.tableswitch 61 1 4 #[31, 61, 37, 58], 31) := by decide +kernel
set_option maxRecDepth 20000 in
theorem dX11_hourOf_40 : decode cX11_hourOf 40 = .ok (.aload_n 0, 1) := by decide +kernel
set_option maxRecDepth 20000 in
theorem dX11_hourOf_41 : decode cX11_hourOf 41 = .ok (.iload_n 1, 1) := by decide +kernel
set_option maxRecDepth 20000 in
theorem dX11_hourOf_42 : decode cX11_hourOf 42 = .ok (.invokevirtual 153, 3) := by decide +kernel
set_option maxRecDepth 20000 in
theorem dX11_hourOf_45 : decode cX11_hourOf 45 = .ok (.ireturn, 1) := by decide +kernel
set_option maxRecDepth 20000 in
theorem dX11_hourOf_46 : decode cX11_hourOf 46 = .ok (.aload_n 0, 1) := by decide +kernel
set_option maxRecDepth 20000 in
theorem dX11_hourOf_47 : decode cX11_hourOf 47 = .ok (.iload_n 1, 1) := by decide +kernel
set_option maxRecDepth 20000 in
theorem dX11_hourOf_48 : decode cX11_hourOf 48 = .ok (.invokevirtual 153, 3) := by decide +kernel
set_option maxRecDepth 20000 in
theorem dX11_hourOf_51 : decode cX11_hourOf 51 = .ok (.bipush 6, 2) := by decide +kernel
set_option maxRecDepth 20000 in
theorem dX11_hourOf_53 : decode cX11_hourOf 53 = .ok (.if_icmp .ge 8, 3) := by decide +kernel
set_option maxRecDepth 20000 in
theorem dX11_hourOf_56 : decode cX11_hourOf 56 = .ok (.bipush 6, 2) := by decide +kernel
set_option maxRecDepth 20000 in
theorem dX11_hourOf_58 : decode cX11_hourOf 58 = .ok (.goto 8, 3) := by decide +kernel
set_option maxRecDepth 20000 in
theorem dX11_hourOf_61 : decode cX11_hourOf 61 = .ok (.aload_n 0, 1) := by decide +kernel
set_option maxRecDepth 20000 in
theorem dX11_hourOf_62 : decode cX11_hourOf 62 = .ok (.iload_n 1, 1) := by decide +kernel
set_option maxRecDepth 20000 in
theorem dX11_hourOf_63 : decode cX11_hourOf 63 = .ok (.invokevirtual 153, 3) := by decide +kernel
set_option maxRecDepth 20000 in
theorem dX11_hourOf_66 : decode cX11_hourOf 66 = .ok (.ireturn, 1) := by decide +kernel
set_option maxRecDepth 20000 in
theorem dX11_hourOf_67 : decode cX11_hourOf 67 = .ok (.bipush 9, 2) := by decide +kernel
set_option maxRecDepth 20000 in
theorem dX11_hourOf_69 : decode cX11_hourOf 69 = .ok (.ireturn, 1) := by decide +kernel
set_option maxRecDepth 20000 in
theorem dX11_hourOf_70 : decode cX11_hourOf 70 = .ok (.aload_n 0, 1) := by decide +kernel
set_option maxRecDepth 20000 in
theorem dX11_hourOf_71 : decode cX11_hourOf 71 = .ok (.getfield 7, 3) := by decide +kernel
set_option maxRecDepth 20000 in
theorem dX11_hourOf_74 : decode cX11_hourOf 74 = .ok (.bipush 36, 2) := by decide +kernel
set_option maxRecDepth 20000 in
theorem dX11_hourOf_76 : decode cX11_hourOf 76 = .ok (.iload_n 1, 1) := by decide +kernel
set_option maxRecDepth 20000 in
theorem dX11_hourOf_77 : decode cX11_hourOf 77 = .ok (.iadd, 1) := by decide +kernel
set_option maxRecDepth 20000 in
theorem dX11_hourOf_78 : decode cX11_hourOf 78 = .ok (.iaload, 1) := by decide +kernel
set_option maxRecDepth 20000 in
theorem dX11_hourOf_79 : decode cX11_hourOf 79 = .ok (.ireturn, 1) := by decide +kernel
set_option maxRecDepth 20000 in
theorem dX11_plainPays_0 : decode cX11_plainPays 0 = .ok (.aload_n 0, 1) := by decide +kernel
set_option maxRecDepth 20000 in
theorem dX11_plainPays_1 : decode cX11_plainPays 1 = .ok (.getfield 7, 3) := by decide +kernel
set_option maxRecDepth 20000 in
theorem dX11_plainPays_4 : decode cX11_plainPays 4 = .ok (.bipush 44, 2) := by decide +kernel
set_option maxRecDepth 20000 in
theorem dX11_plainPays_6 : decode cX11_plainPays 6 = .ok (.iload_n 1, 1) := by decide +kernel
set_option maxRecDepth 20000 in
theorem dX11_plainPays_7 : decode cX11_plainPays 7 = .ok (.iadd, 1) := by decide +kernel
set_option maxRecDepth 20000 in
theorem dX11_plainPays_8 : decode cX11_plainPays 8 = .ok (.iaload, 1) := by decide +kernel
set_option maxRecDepth 20000 in
theorem dX11_plainPays_9 : decode cX11_plainPays 9 = .ok (.aload_n 0, 1) := by decide +kernel
set_option maxRecDepth 20000 in
theorem dX11_plainPays_10 : decode cX11_plainPays 10 = .ok (.getfield 7, 3) := by decide +kernel
set_option maxRecDepth 20000 in
theorem dX11_plainPays_13 : decode cX11_plainPays 13 = .ok (.iconst 1, 1) := by decide +kernel
set_option maxRecDepth 20000 in
theorem dX11_plainPays_14 : decode cX11_plainPays 14 = .ok (.iaload, 1) := by decide +kernel
set_option maxRecDepth 20000 in
theorem dX11_plainPays_15 : decode cX11_plainPays 15 = .ok (.iload_n 2, 1) := by decide +kernel
set_option maxRecDepth 20000 in
theorem dX11_plainPays_16 : decode cX11_plainPays 16 = .ok (.imul, 1) := by decide +kernel
set_option maxRecDepth 20000 in
theorem dX11_plainPays_17 : decode cX11_plainPays 17 = .ok (.isub, 1) := by decide +kernel
set_option maxRecDepth 20000 in
theorem dX11_plainPays_18 : decode cX11_plainPays 18 = .ok (.istore_n 3, 1) := by decide +kernel
set_option maxRecDepth 20000 in
theorem dX11_plainPays_19 : decode cX11_plainPays 19 = .ok (.iload_n 3, 1) := by decide +kernel
set_option maxRecDepth 20000 in
theorem dX11_plainPays_20 : decode cX11_plainPays 20 = .ok (.ifCond .ge 7, 3) := by decide +kernel
set_option maxRecDepth 20000 in
theorem dX11_plainPays_23 : decode cX11_plainPays 23 = .ok (.iconst 0, 1) := by decide +kernel
set_option maxRecDepth 20000 in
theorem dX11_plainPays_24 : decode cX11_plainPays 24 = .ok (.goto 4, 3) := by decide +kernel
set_option maxRecDepth 20000 in
theorem dX11_plainPays_27 : decode cX11_plainPays 27 = .ok (.iload_n 3, 1) := by decide +kernel
set_option maxRecDepth 20000 in
theorem dX11_plainPays_28 : decode cX11_plainPays 28 = .ok (.ireturn, 1) := by decide +kernel
set_option maxRecDepth 20000 in
theorem dX11_paysOf_0 : decode cX11_paysOf 0 = .ok (.aload_n 0, 1) := by decide +kernel
set_option maxRecDepth 20000 in
theorem dX11_paysOf_1 : decode cX11_paysOf 1 = .ok (.iload_n 1, 1) := by decide +kernel
set_option maxRecDepth 20000 in
theorem dX11_paysOf_2 : decode cX11_paysOf 2 = .ok (.aload_n 0, 1) := by decide +kernel
set_option maxRecDepth 20000 in
theorem dX11_paysOf_3 : decode cX11_paysOf 3 = .ok (.iload_n 1, 1) := by decide +kernel
set_option maxRecDepth 20000 in
theorem dX11_paysOf_4 : decode cX11_paysOf 4 = .ok (.invokevirtual 156, 3) := by decide +kernel
set_option maxRecDepth 20000 in
theorem dX11_paysOf_7 : decode cX11_paysOf 7 = .ok (.invokevirtual 159, 3) := by decide +kernel
set_option maxRecDepth 20000 in
theorem dX11_paysOf_10 : decode cX11_paysOf 10 = .ok (.istore_n 2, 1) := by decide +kernel
set_option maxRecDepth 20000 in
theorem dX11_paysOf_11 : decode cX11_paysOf 11 = .ok (.aload_n 0, 1) := by decide +kernel
set_option maxRecDepth 20000 in
theorem dX11_paysOf_12 : decode cX11_paysOf 12 = .ok (.getfield 7, 3) := by decide +kernel
set_option maxRecDepth 20000 in
theorem dX11_paysOf_15 : decode cX11_paysOf 15 = .ok (.bipush 28, 2) := by decide +kernel
set_option maxRecDepth 20000 in
theorem dX11_paysOf_17 : decode cX11_paysOf 17 = .ok (.iload_n 1, 1) := by decide +kernel
set_option maxRecDepth 20000 in
theorem dX11_paysOf_18 : decode cX11_paysOf 18 = .ok (.iadd, 1) := by decide +kernel
set_option maxRecDepth 20000 in
theorem dX11_paysOf_19 : decode cX11_paysOf 19 = .ok (.iaload, 1) := by decide +kernel
set_option maxRecDepth 20000 in
theorem dX11_paysOf_20 : decode cX11_paysOf 20 = .ok (.istore_n 3, 1) := by decide +kernel
set_option maxRecDepth 20000 in
theorem dX11_paysOf_21 : decode cX11_paysOf 21 = .ok (.iload_n 3, 1) := by decide +kernel
set_option maxRecDepth 20000 in
theorem dX11_paysOf_22 : decode cX11_paysOf 22 = .ok (.iconst 2, 1) := by decide +kernel
set_option maxRecDepth 20000 in
theorem dX11_paysOf_23 : decode cX11_paysOf 23 = .ok (.if_icmp .ne 9, 3) := by decide +kernel
set_option maxRecDepth 20000 in
theorem dX11_paysOf_26 : decode cX11_paysOf 26 = .ok (.iconst 2, 1) := by decide +kernel
set_option maxRecDepth 20000 in
theorem dX11_paysOf_27 : decode cX11_paysOf 27 = .ok (.iload_n 2, 1) := by decide +kernel
set_option maxRecDepth 20000 in
theorem dX11_paysOf_28 : decode cX11_paysOf 28 = .ok (.imul, 1) := by decide +kernel
set_option maxRecDepth 20000 in
theorem dX11_paysOf_29 : decode cX11_paysOf 29 = .ok (.goto 31, 3) := by decide +kernel
set_option maxRecDepth 20000 in
theorem dX11_paysOf_32 : decode cX11_paysOf 32 = .ok (.iload_n 3, 1) := by decide +kernel
set_option maxRecDepth 20000 in
theorem dX11_paysOf_33 : decode cX11_paysOf 33 = .ok (.iconst 3, 1) := by decide +kernel
set_option maxRecDepth 20000 in
theorem dX11_paysOf_34 : decode cX11_paysOf 34 = .ok (.if_icmp .eq 8, 3) := by decide +kernel
set_option maxRecDepth 20000 in
theorem dX11_paysOf_37 : decode cX11_paysOf 37 = .ok (.iload_n 3, 1) := by decide +kernel
set_option maxRecDepth 20000 in
theorem dX11_paysOf_38 : decode cX11_paysOf 38 = .ok (.iconst 5, 1) := by decide +kernel
set_option maxRecDepth 20000 in
theorem dX11_paysOf_39 : decode cX11_paysOf 39 = .ok (.if_icmp .ne 9, 3) := by decide +kernel
set_option maxRecDepth 20000 in
theorem dX11_paysOf_42 : decode cX11_paysOf 42 = .ok (.iload_n 2, 1) := by decide +kernel
set_option maxRecDepth 20000 in
theorem dX11_paysOf_43 : decode cX11_paysOf 43 = .ok (.iconst 5, 1) := by decide +kernel
set_option maxRecDepth 20000 in
theorem dX11_paysOf_44 : decode cX11_paysOf 44 = .ok (.iadd, 1) := by decide +kernel
set_option maxRecDepth 20000 in
theorem dX11_paysOf_45 : decode cX11_paysOf 45 = .ok (.goto 15, 3) := by decide +kernel
set_option maxRecDepth 20000 in
theorem dX11_paysOf_48 : decode cX11_paysOf 48 = .ok (.iload_n 3, 1) := by decide +kernel
set_option maxRecDepth 20000 in
theorem dX11_paysOf_49 : decode cX11_paysOf 49 = .ok (.iconst 4, 1) := by decide +kernel
set_option maxRecDepth 20000 in
theorem dX11_paysOf_50 : decode cX11_paysOf 50 = .ok (.if_icmp .ne 9, 3) := by decide +kernel
set_option maxRecDepth 20000 in
theorem dX11_paysOf_53 : decode cX11_paysOf 53 = .ok (.iload_n 2, 1) := by decide +kernel
set_option maxRecDepth 20000 in
theorem dX11_paysOf_54 : decode cX11_paysOf 54 = .ok (.iconst 2, 1) := by decide +kernel
set_option maxRecDepth 20000 in
theorem dX11_paysOf_55 : decode cX11_paysOf 55 = .ok (.idiv, 1) := by decide +kernel
set_option maxRecDepth 20000 in
theorem dX11_paysOf_56 : decode cX11_paysOf 56 = .ok (.goto 4, 3) := by decide +kernel
set_option maxRecDepth 20000 in
theorem dX11_paysOf_59 : decode cX11_paysOf 59 = .ok (.iload_n 2, 1) := by decide +kernel
set_option maxRecDepth 20000 in
theorem dX11_paysOf_60 : decode cX11_paysOf 60 = .ok (.istore_n 2, 1) := by decide +kernel
set_option maxRecDepth 20000 in
theorem dX11_paysOf_61 : decode cX11_paysOf 61 = .ok (.aload_n 0, 1) := by decide +kernel
set_option maxRecDepth 20000 in
theorem dX11_paysOf_62 : decode cX11_paysOf 62 = .ok (.iload_n 1, 1) := by decide +kernel
set_option maxRecDepth 20000 in
theorem dX11_paysOf_63 : decode cX11_paysOf 63 = .ok (.invokevirtual 156, 3) := by decide +kernel
set_option maxRecDepth 20000 in
theorem dX11_paysOf_66 : decode cX11_paysOf 66 = .ok (.aload_n 0, 1) := by decide +kernel
set_option maxRecDepth 20000 in
theorem dX11_paysOf_67 : decode cX11_paysOf 67 = .ok (.getfield 162, 3) := by decide +kernel
set_option maxRecDepth 20000 in
theorem dX11_paysOf_70 : decode cX11_paysOf 70 = .ok (.if_icmp .ne 9, 3) := by decide +kernel
set_option maxRecDepth 20000 in
theorem dX11_paysOf_73 : decode cX11_paysOf 73 = .ok (.iload_n 2, 1) := by decide +kernel
set_option maxRecDepth 20000 in
theorem dX11_paysOf_74 : decode cX11_paysOf 74 = .ok (.iconst 5, 1) := by decide +kernel
set_option maxRecDepth 20000 in
theorem dX11_paysOf_75 : decode cX11_paysOf 75 = .ok (.iadd, 1) := by decide +kernel
set_option maxRecDepth 20000 in
theorem dX11_paysOf_76 : decode cX11_paysOf 76 = .ok (.goto 4, 3) := by decide +kernel
set_option maxRecDepth 20000 in
theorem dX11_paysOf_79 : decode cX11_paysOf 79 = .ok (.iload_n 2, 1) := by decide +kernel
set_option maxRecDepth 20000 in
theorem dX11_paysOf_80 : decode cX11_paysOf 80 = .ok (.ireturn, 1) := by decide +kernel
set_option maxRecDepth 20000 in
theorem dX11_takesOf_0 : decode cX11_takesOf 0 = .ok (.aload_n 0, 1) := by decide +kernel
set_option maxRecDepth 20000 in
theorem dX11_takesOf_1 : decode cX11_takesOf 1 = .ok (.getfield 7, 3) := by decide +kernel
set_option maxRecDepth 20000 in
theorem dX11_takesOf_4 : decode cX11_takesOf 4 = .ok (.bipush 52, 2) := by decide +kernel
set_option maxRecDepth 20000 in
theorem dX11_takesOf_6 : decode cX11_takesOf 6 = .ok (.iload_n 1, 1) := by decide +kernel
set_option maxRecDepth 20000 in
theorem dX11_takesOf_7 : decode cX11_takesOf 7 = .ok (.iadd, 1) := by decide +kernel
set_option maxRecDepth 20000 in
theorem dX11_takesOf_8 : decode cX11_takesOf 8 = .ok (.iaload, 1) := by decide +kernel
set_option maxRecDepth 20000 in
theorem dX11_takesOf_9 : decode cX11_takesOf 9 = .ok (.istore_n 2, 1) := by decide +kernel
set_option maxRecDepth 20000 in
theorem dX11_takesOf_10 : decode cX11_takesOf 10 = .ok (.aload_n 0, 1) := by decide +kernel
set_option maxRecDepth 20000 in
theorem dX11_takesOf_11 : decode cX11_takesOf 11 = .ok (.getfield 7, 3) := by decide +kernel
set_option maxRecDepth 20000 in
theorem dX11_takesOf_14 : decode cX11_takesOf 14 = .ok (.bipush 28, 2) := by decide +kernel
set_option maxRecDepth 20000 in
theorem dX11_takesOf_16 : decode cX11_takesOf 16 = .ok (.iload_n 1, 1) := by decide +kernel
set_option maxRecDepth 20000 in
theorem dX11_takesOf_17 : decode cX11_takesOf 17 = .ok (.iadd, 1) := by decide +kernel
set_option maxRecDepth 20000 in
theorem dX11_takesOf_18 : decode cX11_takesOf 18 = .ok (.iaload, 1) := by decide +kernel
set_option maxRecDepth 20000 in
theorem dX11_takesOf_19 : decode cX11_takesOf 19 = .ok (.iconst 4, 1) := by decide +kernel
set_option maxRecDepth 20000 in
theorem dX11_takesOf_20 : decode cX11_takesOf 20 = .ok (.if_icmp .ne 9, 3) := by decide +kernel
set_option maxRecDepth 20000 in
theorem dX11_takesOf_23 : decode cX11_takesOf 23 = .ok (.iconst 2, 1) := by decide +kernel
set_option maxRecDepth 20000 in
theorem dX11_takesOf_24 : decode cX11_takesOf 24 = .ok (.iload_n 2, 1) := by decide +kernel
set_option maxRecDepth 20000 in
theorem dX11_takesOf_25 : decode cX11_takesOf 25 = .ok (.imul, 1) := by decide +kernel
set_option maxRecDepth 20000 in
theorem dX11_takesOf_26 : decode cX11_takesOf 26 = .ok (.goto 26, 3) := by decide +kernel
set_option maxRecDepth 20000 in
theorem dX11_takesOf_29 : decode cX11_takesOf 29 = .ok (.aload_n 0, 1) := by decide +kernel
set_option maxRecDepth 20000 in
theorem dX11_takesOf_30 : decode cX11_takesOf 30 = .ok (.getfield 7, 3) := by decide +kernel
set_option maxRecDepth 20000 in
theorem dX11_takesOf_33 : decode cX11_takesOf 33 = .ok (.bipush 28, 2) := by decide +kernel
set_option maxRecDepth 20000 in
theorem dX11_takesOf_35 : decode cX11_takesOf 35 = .ok (.iload_n 1, 1) := by decide +kernel
set_option maxRecDepth 20000 in
theorem dX11_takesOf_36 : decode cX11_takesOf 36 = .ok (.iadd, 1) := by decide +kernel
set_option maxRecDepth 20000 in
theorem dX11_takesOf_37 : decode cX11_takesOf 37 = .ok (.iaload, 1) := by decide +kernel
set_option maxRecDepth 20000 in
theorem dX11_takesOf_38 : decode cX11_takesOf 38 = .ok (.iconst 5, 1) := by decide +kernel
set_option maxRecDepth 20000 in
theorem dX11_takesOf_39 : decode cX11_takesOf 39 = .ok (.if_icmp .ne 12, 3) := by decide +kernel
set_option maxRecDepth 20000 in
theorem dX11_takesOf_42 : decode cX11_takesOf 42 = .ok (.iload_n 2, 1) := by decide +kernel
set_option maxRecDepth 20000 in
theorem dX11_takesOf_43 : decode cX11_takesOf 43 = .ok (.iconst 1, 1) := by decide +kernel
set_option maxRecDepth 20000 in
theorem dX11_takesOf_44 : decode cX11_takesOf 44 = .ok (.if_icmp .ne 7, 3) := by decide +kernel
set_option maxRecDepth 20000 in
theorem dX11_takesOf_47 : decode cX11_takesOf 47 = .ok (.iconst 2, 1) := by decide +kernel
set_option maxRecDepth 20000 in
theorem dX11_takesOf_48 : decode cX11_takesOf 48 = .ok (.goto 4, 3) := by decide +kernel
set_option maxRecDepth 20000 in
theorem dX11_takesOf_51 : decode cX11_takesOf 51 = .ok (.iload_n 2, 1) := by decide +kernel
set_option maxRecDepth 20000 in
theorem dX11_takesOf_52 : decode cX11_takesOf 52 = .ok (.ireturn, 1) := by decide +kernel
set_option maxRecDepth 20000 in
theorem dX11_comes_0 : decode cX11_comes 0 = .ok (.aload_n 0, 1) := by decide +kernel
set_option maxRecDepth 20000 in
theorem dX11_comes_1 : decode cX11_comes 1 = .ok (.getfield 7, 3) := by decide +kernel
set_option maxRecDepth 20000 in
theorem dX11_comes_4 : decode cX11_comes 4 = .ok (.bipush 8, 2) := by decide +kernel
set_option maxRecDepth 20000 in
theorem dX11_comes_6 : decode cX11_comes 6 = .ok (.iload_n 2, 1) := by decide +kernel
set_option maxRecDepth 20000 in
theorem dX11_comes_7 : decode cX11_comes 7 = .ok (.iadd, 1) := by decide +kernel
set_option maxRecDepth 20000 in
theorem dX11_comes_8 : decode cX11_comes 8 = .ok (.iaload, 1) := by decide +kernel
set_option maxRecDepth 20000 in
theorem dX11_comes_9 : decode cX11_comes 9 = .ok (.istore_n 3, 1) := by decide +kernel
set_option maxRecDepth 20000 in
theorem dX11_comes_10 : decode cX11_comes 10 = .ok (.aload_n 0, 1) := by decide +kernel
set_option maxRecDepth 20000 in
theorem dX11_comes_11 : decode cX11_comes 11 = .ok (.getfield 7, 3) := by decide +kernel
set_option maxRecDepth 20000 in
theorem dX11_comes_14 : decode cX11_comes 14 = .ok (.bipush 18, 2) := by decide +kernel
set_option maxRecDepth 20000 in
theorem dX11_comes_16 : decode cX11_comes 16 = .ok (.iload_n 2, 1) := by decide +kernel
set_option maxRecDepth 20000 in
theorem dX11_comes_17 : decode cX11_comes 17 = .ok (.iadd, 1) := by decide +kernel
set_option maxRecDepth 20000 in
theorem dX11_comes_18 : decode cX11_comes 18 = .ok (.iaload, 1) := by decide +kernel
set_option maxRecDepth 20000 in
theorem dX11_comes_19 : decode cX11_comes 19 = .ok (.istore 4, 2) := by decide +kernel
set_option maxRecDepth 20000 in
theorem dX11_comes_21 : decode cX11_comes 21 = .ok (.aload_n 0, 1) := by decide +kernel
set_option maxRecDepth 20000 in
theorem dX11_comes_22 : decode cX11_comes 22 = .ok (.iload_n 1, 1) := by decide +kernel
set_option maxRecDepth 20000 in
theorem dX11_comes_23 : decode cX11_comes 23 = .ok (.invokevirtual 165, 3) := by decide +kernel
set_option maxRecDepth 20000 in
theorem dX11_comes_26 : decode cX11_comes 26 = .ok (.istore 5, 2) := by decide +kernel
set_option maxRecDepth 20000 in
theorem dX11_comes_28 : decode cX11_comes 28 = .ok (.iload 4, 2) := by decide +kernel
set_option maxRecDepth 20000 in
theorem dX11_comes_30 : decode cX11_comes 30 = .ok (.ifCond .le 43, 3) := by decide +kernel
set_option maxRecDepth 20000 in
theorem dX11_comes_33 : decode cX11_comes 33 = .ok (.iload 4, 2) := by decide +kernel
set_option maxRecDepth 20000 in
theorem dX11_comes_35 : decode cX11_comes 35 = .ok (.iload_n 3, 1) := by decide +kernel
set_option maxRecDepth 20000 in
theorem dX11_comes_36 : decode cX11_comes 36 = .ok (.if_icmp .ge 37, 3) := by decide +kernel
set_option maxRecDepth 20000 in
theorem dX11_comes_39 : decode cX11_comes 39 = .ok (.iload 5, 2) := by decide +kernel
set_option maxRecDepth 20000 in
theorem dX11_comes_41 : decode cX11_comes 41 = .ok (.iload 4, 2) := by decide +kernel
set_option maxRecDepth 20000 in
theorem dX11_comes_43 : decode cX11_comes 43 = .ok (.if_icmp .lt 30, 3) := by decide +kernel
set_option maxRecDepth 20000 in
theorem dX11_comes_46 : decode cX11_comes 46 = .ok (.aload_n 0, 1) := by decide +kernel
set_option maxRecDepth 20000 in
theorem dX11_comes_47 : decode cX11_comes 47 = .ok (.getfield 30, 3) := by decide +kernel
set_option maxRecDepth 20000 in
theorem dX11_comes_50 : decode cX11_comes 50 = .ok (.iload_n 1, 1) := by decide +kernel
set_option maxRecDepth 20000 in
theorem dX11_comes_51 : decode cX11_comes 51 = .ok (.iconst 1, 1) := by decide +kernel
set_option maxRecDepth 20000 in
theorem dX11_comes_52 : decode cX11_comes 52 = .ok (.bastore, 1) := by decide +kernel
set_option maxRecDepth 20000 in
theorem dX11_comes_53 : decode cX11_comes 53 = .ok (.aload_n 0, 1) := by decide +kernel
set_option maxRecDepth 20000 in
theorem dX11_comes_54 : decode cX11_comes 54 = .ok (.dup, 1) := by decide +kernel
set_option maxRecDepth 20000 in
theorem dX11_comes_55 : decode cX11_comes 55 = .ok (.getfield 168, 3) := by decide +kernel
set_option maxRecDepth 20000 in
theorem dX11_comes_58 : decode cX11_comes 58 = .ok (.iload 4, 2) := by decide +kernel
set_option maxRecDepth 20000 in
theorem dX11_comes_60 : decode cX11_comes 60 = .ok (.aload_n 0, 1) := by decide +kernel
set_option maxRecDepth 20000 in
theorem dX11_comes_61 : decode cX11_comes 61 = .ok (.iload_n 1, 1) := by decide +kernel
set_option maxRecDepth 20000 in
theorem dX11_comes_62 : decode cX11_comes 62 = .ok (.invokevirtual 171, 3) := by decide +kernel
set_option maxRecDepth 20000 in
theorem dX11_comes_65 : decode cX11_comes 65 = .ok (.imul, 1) := by decide +kernel
set_option maxRecDepth 20000 in
theorem dX11_comes_66 : decode cX11_comes 66 = .ok (.iadd, 1) := by decide +kernel
set_option maxRecDepth 20000 in
theorem dX11_comes_67 : decode cX11_comes 67 = .ok (.putfield 168, 3) := by decide +kernel
set_option maxRecDepth 20000 in
theorem dX11_comes_70 : decode cX11_comes 70 = .ok (.goto 94, 3) := by decide +kernel
set_option maxRecDepth 20000 in
theorem dX11_comes_73 : decode cX11_comes 73 = .ok (.iload_n 3, 1) := by decide +kernel
set_option maxRecDepth 20000 in
theorem dX11_comes_74 : decode cX11_comes 74 = .ok (.iload 5, 2) := by decide +kernel
set_option maxRecDepth 20000 in
theorem dX11_comes_76 : decode cX11_comes 76 = .ok (.if_icmp .gt 88, 3) := by decide +kernel
set_option maxRecDepth 20000 in
theorem dX11_comes_79 : decode cX11_comes 79 = .ok (.aload_n 0, 1) := by decide +kernel
set_option maxRecDepth 20000 in
theorem dX11_comes_80 : decode cX11_comes 80 = .ok (.iload_n 1, 1) := by decide +kernel
set_option maxRecDepth 20000 in
theorem dX11_comes_81 : decode cX11_comes 81 = .ok (.invokevirtual 171, 3) := by decide +kernel
set_option maxRecDepth 20000 in
theorem dX11_comes_84 : decode cX11_comes 84 = .ok (.aload_n 0, 1) := by decide +kernel
set_option maxRecDepth 20000 in
theorem dX11_comes_85 : decode cX11_comes 85 = .ok (.getfield 174, 3) := by decide +kernel
set_option maxRecDepth 20000 in
theorem dX11_comes_88 : decode cX11_comes 88 = .ok (.if_icmp .ge 11, 3) := by decide +kernel
set_option maxRecDepth 20000 in
theorem dX11_comes_91 : decode cX11_comes 91 = .ok (.aload_n 0, 1) := by decide +kernel
set_option maxRecDepth 20000 in
theorem dX11_comes_92 : decode cX11_comes 92 = .ok (.iload_n 1, 1) := by decide +kernel
set_option maxRecDepth 20000 in
theorem dX11_comes_93 : decode cX11_comes 93 = .ok (.invokevirtual 171, 3) := by decide +kernel
set_option maxRecDepth 20000 in
theorem dX11_comes_96 : decode cX11_comes 96 = .ok (.goto 7, 3) := by decide +kernel
set_option maxRecDepth 20000 in
theorem dX11_comes_99 : decode cX11_comes 99 = .ok (.aload_n 0, 1) := by decide +kernel
set_option maxRecDepth 20000 in
theorem dX11_comes_100 : decode cX11_comes 100 = .ok (.getfield 174, 3) := by decide +kernel
set_option maxRecDepth 20000 in
theorem dX11_comes_103 : decode cX11_comes 103 = .ok (.istore 6, 2) := by decide +kernel
set_option maxRecDepth 20000 in
theorem dX11_comes_105 : decode cX11_comes 105 = .ok (.aload_n 0, 1) := by decide +kernel
set_option maxRecDepth 20000 in
theorem dX11_comes_106 : decode cX11_comes 106 = .ok (.getfield 27, 3) := by decide +kernel
set_option maxRecDepth 20000 in
theorem dX11_comes_109 : decode cX11_comes 109 = .ok (.iload_n 1, 1) := by decide +kernel
set_option maxRecDepth 20000 in
theorem dX11_comes_110 : decode cX11_comes 110 = .ok (.iload 6, 2) := by decide +kernel
set_option maxRecDepth 20000 in
theorem dX11_comes_112 : decode cX11_comes 112 = .ok (.iastore, 1) := by decide +kernel
set_option maxRecDepth 20000 in
theorem dX11_comes_113 : decode cX11_comes 113 = .ok (.aload_n 0, 1) := by decide +kernel
set_option maxRecDepth 20000 in
theorem dX11_comes_114 : decode cX11_comes 114 = .ok (.getfield 30, 3) := by decide +kernel
set_option maxRecDepth 20000 in
theorem dX11_comes_117 : decode cX11_comes 117 = .ok (.iload_n 1, 1) := by decide +kernel
set_option maxRecDepth 20000 in
theorem dX11_comes_118 : decode cX11_comes 118 = .ok (.iload 6, 2) := by decide +kernel
set_option maxRecDepth 20000 in
theorem dX11_comes_120 : decode cX11_comes 120 = .ok (.ifCond .le 7, 3) := by decide +kernel
set_option maxRecDepth 20000 in
theorem dX11_comes_123 : decode cX11_comes 123 = .ok (.iconst 1, 1) := by decide +kernel
set_option maxRecDepth 20000 in
theorem dX11_comes_124 : decode cX11_comes 124 = .ok (.goto 4, 3) := by decide +kernel
set_option maxRecDepth 20000 in
theorem dX11_comes_127 : decode cX11_comes 127 = .ok (.iconst 0, 1) := by decide +kernel
set_option maxRecDepth 20000 in
theorem dX11_comes_128 : decode cX11_comes 128 = .ok (.bastore, 1) := by decide +kernel
set_option maxRecDepth 20000 in
theorem dX11_comes_129 : decode cX11_comes 129 = .ok (.aload_n 0, 1) := by decide +kernel
set_option maxRecDepth 20000 in
theorem dX11_comes_130 : decode cX11_comes 130 = .ok (.getfield 33, 3) := by decide +kernel
set_option maxRecDepth 20000 in
theorem dX11_comes_133 : decode cX11_comes 133 = .ok (.iload_n 2, 1) := by decide +kernel
set_option maxRecDepth 20000 in
theorem dX11_comes_134 : decode cX11_comes 134 = .ok (.dup2, 1) := by decide +kernel
set_option maxRecDepth 20000 in
theorem dX11_comes_135 : decode cX11_comes 135 = .ok (.iaload, 1) := by decide +kernel
set_option maxRecDepth 20000 in
theorem dX11_comes_136 : decode cX11_comes 136 = .ok (.iload 6, 2) := by decide +kernel
set_option maxRecDepth 20000 in
theorem dX11_comes_138 : decode cX11_comes 138 = .ok (.iadd, 1) := by decide +kernel
set_option maxRecDepth 20000 in
theorem dX11_comes_139 : decode cX11_comes 139 = .ok (.iastore, 1) := by decide +kernel
set_option maxRecDepth 20000 in
theorem dX11_comes_140 : decode cX11_comes 140 = .ok (.aload_n 0, 1) := by decide +kernel
set_option maxRecDepth 20000 in
theorem dX11_comes_141 : decode cX11_comes 141 = .ok (.dup, 1) := by decide +kernel
set_option maxRecDepth 20000 in
theorem dX11_comes_142 : decode cX11_comes 142 = .ok (.getfield 174, 3) := by decide +kernel
set_option maxRecDepth 20000 in
theorem dX11_comes_145 : decode cX11_comes 145 = .ok (.iload 6, 2) := by decide +kernel
set_option maxRecDepth 20000 in
theorem dX11_comes_147 : decode cX11_comes 147 = .ok (.isub, 1) := by decide +kernel
set_option maxRecDepth 20000 in
theorem dX11_comes_148 : decode cX11_comes 148 = .ok (.putfield 174, 3) := by decide +kernel
set_option maxRecDepth 20000 in
theorem dX11_comes_151 : decode cX11_comes 151 = .ok (.aload_n 0, 1) := by decide +kernel
set_option maxRecDepth 20000 in
theorem dX11_comes_152 : decode cX11_comes 152 = .ok (.dup, 1) := by decide +kernel
set_option maxRecDepth 20000 in
theorem dX11_comes_153 : decode cX11_comes 153 = .ok (.getfield 177, 3) := by decide +kernel
set_option maxRecDepth 20000 in
theorem dX11_comes_156 : decode cX11_comes 156 = .ok (.iload 6, 2) := by decide +kernel
set_option maxRecDepth 20000 in
theorem dX11_comes_158 : decode cX11_comes 158 = .ok (.iload_n 3, 1) := by decide +kernel
set_option maxRecDepth 20000 in
theorem dX11_comes_159 : decode cX11_comes 159 = .ok (.imul, 1) := by decide +kernel
set_option maxRecDepth 20000 in
theorem dX11_comes_160 : decode cX11_comes 160 = .ok (.iadd, 1) := by decide +kernel
set_option maxRecDepth 20000 in
theorem dX11_comes_161 : decode cX11_comes 161 = .ok (.putfield 177, 3) := by decide +kernel
set_option maxRecDepth 20000 in
theorem dX11_comes_164 : decode cX11_comes 164 = .ok (.return_, 1) := by decide +kernel
set_option maxRecDepth 20000 in
theorem dX11_tries_0 : decode cX11_tries 0 = .ok (.aload_n 0, 1) := by decide +kernel
set_option maxRecDepth 20000 in
theorem dX11_tries_1 : decode cX11_tries 1 = .ok (.iload_n 1, 1) := by decide +kernel
set_option maxRecDepth 20000 in
theorem dX11_tries_2 : decode cX11_tries 2 = .ok (.putfield 180, 3) := by decide +kernel
set_option maxRecDepth 20000 in
theorem dX11_tries_5 : decode cX11_tries 5 = .ok (.aload_n 0, 1) := by decide +kernel
set_option maxRecDepth 20000 in
theorem dX11_tries_6 : decode cX11_tries 6 = .ok (.iconst 0, 1) := by decide +kernel
set_option maxRecDepth 20000 in
theorem dX11_tries_7 : decode cX11_tries 7 = .ok (.putfield 177, 3) := by decide +kernel
set_option maxRecDepth 20000 in
theorem dX11_tries_10 : decode cX11_tries 10 = .ok (.aload_n 0, 1) := by decide +kernel
set_option maxRecDepth 20000 in
theorem dX11_tries_11 : decode cX11_tries 11 = .ok (.iconst 0, 1) := by decide +kernel
set_option maxRecDepth 20000 in
theorem dX11_tries_12 : decode cX11_tries 12 = .ok (.putfield 168, 3) := by decide +kernel
set_option maxRecDepth 20000 in
theorem dX11_tries_15 : decode cX11_tries 15 = .ok (.aload_n 0, 1) := by decide +kernel
set_option maxRecDepth 20000 in
theorem dX11_tries_16 : decode cX11_tries 16 = .ok (.aload_n 0, 1) := by decide +kernel
set_option maxRecDepth 20000 in
theorem dX11_tries_17 : decode cX11_tries 17 = .ok (.getfield 7, 3) := by decide +kernel
set_option maxRecDepth 20000 in
theorem dX11_tries_20 : decode cX11_tries 20 = .ok (.iconst 0, 1) := by decide +kernel
set_option maxRecDepth 20000 in
theorem dX11_tries_21 : decode cX11_tries 21 = .ok (.iaload, 1) := by decide +kernel
set_option maxRecDepth 20000 in
theorem dX11_tries_22 : decode cX11_tries 22 = .ok (.putfield 174, 3) := by decide +kernel
set_option maxRecDepth 20000 in
theorem dX11_tries_25 : decode cX11_tries 25 = .ok (.iconst 0, 1) := by decide +kernel
set_option maxRecDepth 20000 in
theorem dX11_tries_26 : decode cX11_tries 26 = .ok (.istore_n 2, 1) := by decide +kernel
set_option maxRecDepth 20000 in
theorem dX11_tries_27 : decode cX11_tries 27 = .ok (.iload_n 2, 1) := by decide +kernel
set_option maxRecDepth 20000 in
theorem dX11_tries_28 : decode cX11_tries 28 = .ok (.bipush 8, 2) := by decide +kernel
set_option maxRecDepth 20000 in
theorem dX11_tries_30 : decode cX11_tries 30 = .ok (.if_icmp .ge 23, 3) := by decide +kernel
set_option maxRecDepth 20000 in
theorem dX11_tries_33 : decode cX11_tries 33 = .ok (.aload_n 0, 1) := by decide +kernel
set_option maxRecDepth 20000 in
theorem dX11_tries_34 : decode cX11_tries 34 = .ok (.getfield 27, 3) := by decide +kernel
set_option maxRecDepth 20000 in
theorem dX11_tries_37 : decode cX11_tries 37 = .ok (.iload_n 2, 1) := by decide +kernel
set_option maxRecDepth 20000 in
theorem dX11_tries_38 : decode cX11_tries 38 = .ok (.iconst 0, 1) := by decide +kernel
set_option maxRecDepth 20000 in
theorem dX11_tries_39 : decode cX11_tries 39 = .ok (.iastore, 1) := by decide +kernel
set_option maxRecDepth 20000 in
theorem dX11_tries_40 : decode cX11_tries 40 = .ok (.aload_n 0, 1) := by decide +kernel
set_option maxRecDepth 20000 in
theorem dX11_tries_41 : decode cX11_tries 41 = .ok (.getfield 30, 3) := by decide +kernel
set_option maxRecDepth 20000 in
theorem dX11_tries_44 : decode cX11_tries 44 = .ok (.iload_n 2, 1) := by decide +kernel
set_option maxRecDepth 20000 in
theorem dX11_tries_45 : decode cX11_tries 45 = .ok (.iconst 0, 1) := by decide +kernel
set_option maxRecDepth 20000 in
theorem dX11_tries_46 : decode cX11_tries 46 = .ok (.bastore, 1) := by decide +kernel
set_option maxRecDepth 20000 in
theorem dX11_tries_47 : decode cX11_tries 47 = .ok (.iinc 2 1, 3) := by decide +kernel
set_option maxRecDepth 20000 in
theorem dX11_tries_50 : decode cX11_tries 50 = .ok (.goto (-23), 3) := by decide +kernel
set_option maxRecDepth 20000 in
theorem dX11_tries_53 : decode cX11_tries 53 = .ok (.iconst 0, 1) := by decide +kernel
set_option maxRecDepth 20000 in
theorem dX11_tries_54 : decode cX11_tries 54 = .ok (.istore_n 2, 1) := by decide +kernel
set_option maxRecDepth 20000 in
theorem dX11_tries_55 : decode cX11_tries 55 = .ok (.iload_n 2, 1) := by decide +kernel
set_option maxRecDepth 20000 in
theorem dX11_tries_56 : decode cX11_tries 56 = .ok (.bipush 10, 2) := by decide +kernel
set_option maxRecDepth 20000 in
theorem dX11_tries_58 : decode cX11_tries 58 = .ok (.if_icmp .ge 111, 3) := by decide +kernel
set_option maxRecDepth 20000 in
theorem dX11_tries_61 : decode cX11_tries 61 = .ok (.aload_n 0, 1) := by decide +kernel
set_option maxRecDepth 20000 in
theorem dX11_tries_62 : decode cX11_tries 62 = .ok (.getfield 33, 3) := by decide +kernel
set_option maxRecDepth 20000 in
theorem dX11_tries_65 : decode cX11_tries 65 = .ok (.iload_n 2, 1) := by decide +kernel
set_option maxRecDepth 20000 in
theorem dX11_tries_66 : decode cX11_tries 66 = .ok (.iconst 0, 1) := by decide +kernel
set_option maxRecDepth 20000 in
theorem dX11_tries_67 : decode cX11_tries 67 = .ok (.iastore, 1) := by decide +kernel
set_option maxRecDepth 20000 in
theorem dX11_tries_68 : decode cX11_tries 68 = .ok (.iconst 0, 1) := by decide +kernel
set_option maxRecDepth 20000 in
theorem dX11_tries_69 : decode cX11_tries 69 = .ok (.istore_n 3, 1) := by decide +kernel
set_option maxRecDepth 20000 in
theorem dX11_tries_70 : decode cX11_tries 70 = .ok (.iload_n 3, 1) := by decide +kernel
set_option maxRecDepth 20000 in
theorem dX11_tries_71 : decode cX11_tries 71 = .ok (.aload_n 0, 1) := by decide +kernel
set_option maxRecDepth 20000 in
theorem dX11_tries_72 : decode cX11_tries 72 = .ok (.getfield 7, 3) := by decide +kernel
set_option maxRecDepth 20000 in
theorem dX11_tries_75 : decode cX11_tries 75 = .ok (.iconst 3, 1) := by decide +kernel
set_option maxRecDepth 20000 in
theorem dX11_tries_76 : decode cX11_tries 76 = .ok (.iaload, 1) := by decide +kernel
set_option maxRecDepth 20000 in
theorem dX11_tries_77 : decode cX11_tries 77 = .ok (.if_icmp .ge 86, 3) := by decide +kernel
set_option maxRecDepth 20000 in
theorem dX11_tries_80 : decode cX11_tries 80 = .ok (.aload_n 0, 1) := by decide +kernel
set_option maxRecDepth 20000 in
theorem dX11_tries_81 : decode cX11_tries 81 = .ok (.getfield 7, 3) := by decide +kernel
set_option maxRecDepth 20000 in
theorem dX11_tries_84 : decode cX11_tries 84 = .ok (.iconst 2, 1) := by decide +kernel
set_option maxRecDepth 20000 in
theorem dX11_tries_85 : decode cX11_tries 85 = .ok (.iaload, 1) := by decide +kernel
set_option maxRecDepth 20000 in
theorem dX11_tries_86 : decode cX11_tries 86 = .ok (.iload_n 2, 1) := by decide +kernel
set_option maxRecDepth 20000 in
theorem dX11_tries_87 : decode cX11_tries 87 = .ok (.invokestatic 183, 3) := by decide +kernel
set_option maxRecDepth 20000 in
theorem dX11_tries_90 : decode cX11_tries 90 = .ok (.ifCond .eq 29, 3) := by decide +kernel
set_option maxRecDepth 20000 in
theorem dX11_tries_93 : decode cX11_tries 93 = .ok (.aload_n 0, 1) := by decide +kernel
set_option maxRecDepth 20000 in
theorem dX11_tries_94 : decode cX11_tries 94 = .ok (.getfield 7, 3) := by decide +kernel
set_option maxRecDepth 20000 in
theorem dX11_tries_97 : decode cX11_tries 97 = .ok (.bipush 28, 2) := by decide +kernel
set_option maxRecDepth 20000 in
theorem dX11_tries_99 : decode cX11_tries 99 = .ok (.iload_n 3, 1) := by decide +kernel
set_option maxRecDepth 20000 in
theorem dX11_tries_100 : decode cX11_tries 100 = .ok (.iadd, 1) := by decide +kernel
set_option maxRecDepth 20000 in
theorem dX11_tries_101 : decode cX11_tries 101 = .ok (.iaload, 1) := by decide +kernel
set_option maxRecDepth 20000 in
theorem dX11_tries_102 : decode cX11_tries 102 = .ok (.iconst 2, 1) := by decide +kernel
set_option maxRecDepth 20000 in
theorem dX11_tries_103 : decode cX11_tries 103 = .ok (.if_icmp .eq 16, 3) := by decide +kernel
set_option maxRecDepth 20000 in
theorem dX11_tries_106 : decode cX11_tries 106 = .ok (.aload_n 0, 1) := by decide +kernel
set_option maxRecDepth 20000 in
theorem dX11_tries_107 : decode cX11_tries 107 = .ok (.getfield 7, 3) := by decide +kernel
set_option maxRecDepth 20000 in
theorem dX11_tries_110 : decode cX11_tries 110 = .ok (.bipush 28, 2) := by decide +kernel
set_option maxRecDepth 20000 in
theorem dX11_tries_112 : decode cX11_tries 112 = .ok (.iload_n 3, 1) := by decide +kernel
set_option maxRecDepth 20000 in
theorem dX11_tries_113 : decode cX11_tries 113 = .ok (.iadd, 1) := by decide +kernel
set_option maxRecDepth 20000 in
theorem dX11_tries_114 : decode cX11_tries 114 = .ok (.iaload, 1) := by decide +kernel
set_option maxRecDepth 20000 in
theorem dX11_tries_115 : decode cX11_tries 115 = .ok (.iconst 4, 1) := by decide +kernel
set_option maxRecDepth 20000 in
theorem dX11_tries_116 : decode cX11_tries 116 = .ok (.if_icmp .ne 7, 3) := by decide +kernel
set_option maxRecDepth 20000 in
theorem dX11_tries_119 : decode cX11_tries 119 = .ok (.iconst 1, 1) := by decide +kernel
set_option maxRecDepth 20000 in
theorem dX11_tries_120 : decode cX11_tries 120 = .ok (.goto 4, 3) := by decide +kernel
set_option maxRecDepth 20000 in
theorem dX11_tries_123 : decode cX11_tries 123 = .ok (.iconst 0, 1) := by decide +kernel
set_option maxRecDepth 20000 in
theorem dX11_tries_124 : decode cX11_tries 124 = .ok (.istore 4, 2) := by decide +kernel
set_option maxRecDepth 20000 in
theorem dX11_tries_126 : decode cX11_tries 126 = .ok (.aload_n 0, 1) := by decide +kernel
set_option maxRecDepth 20000 in
theorem dX11_tries_127 : decode cX11_tries 127 = .ok (.getfield 180, 3) := by decide +kernel
set_option maxRecDepth 20000 in
theorem dX11_tries_130 : decode cX11_tries 130 = .ok (.iload_n 3, 1) := by decide +kernel
set_option maxRecDepth 20000 in
theorem dX11_tries_131 : decode cX11_tries 131 = .ok (.invokestatic 183, 3) := by decide +kernel
set_option maxRecDepth 20000 in
theorem dX11_tries_134 : decode cX11_tries 134 = .ok (.ifCond .eq 23, 3) := by decide +kernel
set_option maxRecDepth 20000 in
theorem dX11_tries_137 : decode cX11_tries 137 = .ok (.iload 4, 2) := by decide +kernel
set_option maxRecDepth 20000 in
theorem dX11_tries_139 : decode cX11_tries 139 = .ok (.ifCond .eq 18, 3) := by decide +kernel
set_option maxRecDepth 20000 in
theorem dX11_tries_142 : decode cX11_tries 142 = .ok (.aload_n 0, 1) := by decide +kernel
set_option maxRecDepth 20000 in
theorem dX11_tries_143 : decode cX11_tries 143 = .ok (.iload_n 3, 1) := by decide +kernel
set_option maxRecDepth 20000 in
theorem dX11_tries_144 : decode cX11_tries 144 = .ok (.invokevirtual 156, 3) := by decide +kernel
set_option maxRecDepth 20000 in
theorem dX11_tries_147 : decode cX11_tries 147 = .ok (.iload_n 2, 1) := by decide +kernel
set_option maxRecDepth 20000 in
theorem dX11_tries_148 : decode cX11_tries 148 = .ok (.if_icmp .ne 9, 3) := by decide +kernel
set_option maxRecDepth 20000 in
theorem dX11_tries_151 : decode cX11_tries 151 = .ok (.aload_n 0, 1) := by decide +kernel
set_option maxRecDepth 20000 in
theorem dX11_tries_152 : decode cX11_tries 152 = .ok (.iload_n 3, 1) := by decide +kernel
set_option maxRecDepth 20000 in
theorem dX11_tries_153 : decode cX11_tries 153 = .ok (.iload_n 2, 1) := by decide +kernel
set_option maxRecDepth 20000 in
theorem dX11_tries_154 : decode cX11_tries 154 = .ok (.invokevirtual 186, 3) := by decide +kernel
set_option maxRecDepth 20000 in
theorem dX11_tries_157 : decode cX11_tries 157 = .ok (.iinc 3 1, 3) := by decide +kernel
set_option maxRecDepth 20000 in
theorem dX11_tries_160 : decode cX11_tries 160 = .ok (.goto (-90), 3) := by decide +kernel
set_option maxRecDepth 20000 in
theorem dX11_tries_163 : decode cX11_tries 163 = .ok (.iinc 2 1, 3) := by decide +kernel
set_option maxRecDepth 20000 in
theorem dX11_tries_166 : decode cX11_tries 166 = .ok (.goto (-111), 3) := by decide +kernel
set_option maxRecDepth 20000 in
theorem dX11_tries_169 : decode cX11_tries 169 = .ok (.return_, 1) := by decide +kernel
set_option maxRecDepth 20000 in
theorem dX11_triesAll_0 : decode cX11_triesAll 0 = .ok (.aload_n 0, 1) := by decide +kernel
set_option maxRecDepth 20000 in
theorem dX11_triesAll_1 : decode cX11_triesAll 1 = .ok (.iconst (-1), 1) := by decide +kernel
set_option maxRecDepth 20000 in
theorem dX11_triesAll_2 : decode cX11_triesAll 2 = .ok (.putfield 162, 3) := by decide +kernel
set_option maxRecDepth 20000 in
theorem dX11_triesAll_5 : decode cX11_triesAll 5 = .ok (.aload_n 0, 1) := by decide +kernel
set_option maxRecDepth 20000 in
theorem dX11_triesAll_6 : decode cX11_triesAll 6 = .ok (.sipush 255, 3) := by decide +kernel
set_option maxRecDepth 20000 in
theorem dX11_triesAll_9 : decode cX11_triesAll 9 = .ok (.invokevirtual 189, 3) := by decide +kernel
set_option maxRecDepth 20000 in
theorem dX11_triesAll_12 : decode cX11_triesAll 12 = .ok (.return_, 1) := by decide +kernel
set_option maxRecDepth 20000 in
theorem dX11_isCheaper_0 : decode cX11_isCheaper 0 = .ok (.aload_n 0, 1) := by decide +kernel
set_option maxRecDepth 20000 in
theorem dX11_isCheaper_1 : decode cX11_isCheaper 1 = .ok (.iload_n 1, 1) := by decide +kernel
set_option maxRecDepth 20000 in
theorem dX11_isCheaper_2 : decode cX11_isCheaper 2 = .ok (.invokevirtual 156, 3) := by decide +kernel
set_option maxRecDepth 20000 in
theorem dX11_isCheaper_5 : decode cX11_isCheaper 5 = .ok (.istore_n 2, 1) := by decide +kernel
set_option maxRecDepth 20000 in
theorem dX11_isCheaper_6 : decode cX11_isCheaper 6 = .ok (.iconst 0, 1) := by decide +kernel
set_option maxRecDepth 20000 in
theorem dX11_isCheaper_7 : decode cX11_isCheaper 7 = .ok (.istore_n 3, 1) := by decide +kernel
set_option maxRecDepth 20000 in
theorem dX11_isCheaper_8 : decode cX11_isCheaper 8 = .ok (.iload_n 2, 1) := by decide +kernel
set_option maxRecDepth 20000 in
theorem dX11_isCheaper_9 : decode cX11_isCheaper 9 = .ok (.iconst 1, 1) := by decide +kernel
set_option maxRecDepth 20000 in
theorem dX11_isCheaper_10 : decode cX11_isCheaper 10 = .ok (.iadd, 1) := by decide +kernel
set_option maxRecDepth 20000 in
theorem dX11_isCheaper_11 : decode cX11_isCheaper 11 = .ok (.istore 4, 2) := by decide +kernel
set_option maxRecDepth 20000 in
theorem dX11_isCheaper_13 : decode cX11_isCheaper 13 = .ok (.iload 4, 2) := by decide +kernel
set_option maxRecDepth 20000 in
theorem dX11_isCheaper_15 : decode cX11_isCheaper 15 = .ok (.bipush 10, 2) := by decide +kernel
set_option maxRecDepth 20000 in
theorem dX11_isCheaper_17 : decode cX11_isCheaper 17 = .ok (.if_icmp .ge 43, 3) := by decide +kernel
set_option maxRecDepth 20000 in
theorem dX11_isCheaper_20 : decode cX11_isCheaper 20 = .ok (.iload_n 3, 1) := by decide +kernel
set_option maxRecDepth 20000 in
theorem dX11_isCheaper_21 : decode cX11_isCheaper 21 = .ok (.ifCond .ne 27, 3) := by decide +kernel
set_option maxRecDepth 20000 in
theorem dX11_isCheaper_24 : decode cX11_isCheaper 24 = .ok (.aload_n 0, 1) := by decide +kernel
set_option maxRecDepth 20000 in
theorem dX11_isCheaper_25 : decode cX11_isCheaper 25 = .ok (.getfield 7, 3) := by decide +kernel
set_option maxRecDepth 20000 in
theorem dX11_isCheaper_28 : decode cX11_isCheaper 28 = .ok (.bipush 8, 2) := by decide +kernel
set_option maxRecDepth 20000 in
theorem dX11_isCheaper_30 : decode cX11_isCheaper 30 = .ok (.iload 4, 2) := by decide +kernel
set_option maxRecDepth 20000 in
theorem dX11_isCheaper_32 : decode cX11_isCheaper 32 = .ok (.iadd, 1) := by decide +kernel
set_option maxRecDepth 20000 in
theorem dX11_isCheaper_33 : decode cX11_isCheaper 33 = .ok (.iaload, 1) := by decide +kernel
set_option maxRecDepth 20000 in
theorem dX11_isCheaper_34 : decode cX11_isCheaper 34 = .ok (.aload_n 0, 1) := by decide +kernel
set_option maxRecDepth 20000 in
theorem dX11_isCheaper_35 : decode cX11_isCheaper 35 = .ok (.getfield 7, 3) := by decide +kernel
set_option maxRecDepth 20000 in
theorem dX11_isCheaper_38 : decode cX11_isCheaper 38 = .ok (.bipush 8, 2) := by decide +kernel
set_option maxRecDepth 20000 in
theorem dX11_isCheaper_40 : decode cX11_isCheaper 40 = .ok (.iload_n 2, 1) := by decide +kernel
set_option maxRecDepth 20000 in
theorem dX11_isCheaper_41 : decode cX11_isCheaper 41 = .ok (.iadd, 1) := by decide +kernel
set_option maxRecDepth 20000 in
theorem dX11_isCheaper_42 : decode cX11_isCheaper 42 = .ok (.iaload, 1) := by decide +kernel
set_option maxRecDepth 20000 in
theorem dX11_isCheaper_43 : decode cX11_isCheaper 43 = .ok (.iconst 2, 1) := by decide +kernel
set_option maxRecDepth 20000 in
theorem dX11_isCheaper_44 : decode cX11_isCheaper 44 = .ok (.idiv, 1) := by decide +kernel
set_option maxRecDepth 20000 in
theorem dX11_isCheaper_45 : decode cX11_isCheaper 45 = .ok (.if_icmp .ge 7, 3) := by decide +kernel
set_option maxRecDepth 20000 in
theorem dX11_isCheaper_48 : decode cX11_isCheaper 48 = .ok (.iconst 1, 1) := by decide +kernel
set_option maxRecDepth 20000 in
theorem dX11_isCheaper_49 : decode cX11_isCheaper 49 = .ok (.goto 4, 3) := by decide +kernel
set_option maxRecDepth 20000 in
theorem dX11_isCheaper_52 : decode cX11_isCheaper 52 = .ok (.iconst 0, 1) := by decide +kernel
set_option maxRecDepth 20000 in
theorem dX11_isCheaper_53 : decode cX11_isCheaper 53 = .ok (.istore_n 3, 1) := by decide +kernel
set_option maxRecDepth 20000 in
theorem dX11_isCheaper_54 : decode cX11_isCheaper 54 = .ok (.iinc 4 1, 3) := by decide +kernel
set_option maxRecDepth 20000 in
theorem dX11_isCheaper_57 : decode cX11_isCheaper 57 = .ok (.goto (-44), 3) := by decide +kernel
set_option maxRecDepth 20000 in
theorem dX11_isCheaper_60 : decode cX11_isCheaper 60 = .ok (.iload_n 3, 1) := by decide +kernel
set_option maxRecDepth 20000 in
theorem dX11_isCheaper_61 : decode cX11_isCheaper 61 = .ok (.ireturn, 1) := by decide +kernel
set_option maxRecDepth 20000 in
theorem dX11_learns_0 : decode cX11_learns 0 = .ok (.iconst 0, 1) := by decide +kernel
set_option maxRecDepth 20000 in
theorem dX11_learns_1 : decode cX11_learns 1 = .ok (.istore_n 1, 1) := by decide +kernel
set_option maxRecDepth 20000 in
theorem dX11_learns_2 : decode cX11_learns 2 = .ok (.iload_n 1, 1) := by decide +kernel
set_option maxRecDepth 20000 in
theorem dX11_learns_3 : decode cX11_learns 3 = .ok (.aload_n 0, 1) := by decide +kernel
set_option maxRecDepth 20000 in
theorem dX11_learns_4 : decode cX11_learns 4 = .ok (.getfield 7, 3) := by decide +kernel
set_option maxRecDepth 20000 in
theorem dX11_learns_7 : decode cX11_learns 7 = .ok (.iconst 3, 1) := by decide +kernel
set_option maxRecDepth 20000 in
theorem dX11_learns_8 : decode cX11_learns 8 = .ok (.iaload, 1) := by decide +kernel
set_option maxRecDepth 20000 in
theorem dX11_learns_9 : decode cX11_learns 9 = .ok (.if_icmp .ge 96, 3) := by decide +kernel
set_option maxRecDepth 20000 in
theorem dX11_learns_12 : decode cX11_learns 12 = .ok (.aload_n 0, 1) := by decide +kernel
set_option maxRecDepth 20000 in
theorem dX11_learns_13 : decode cX11_learns 13 = .ok (.getfield 7, 3) := by decide +kernel
set_option maxRecDepth 20000 in
theorem dX11_learns_16 : decode cX11_learns 16 = .ok (.bipush 28, 2) := by decide +kernel
set_option maxRecDepth 20000 in
theorem dX11_learns_18 : decode cX11_learns 18 = .ok (.iload_n 1, 1) := by decide +kernel
set_option maxRecDepth 20000 in
theorem dX11_learns_19 : decode cX11_learns 19 = .ok (.iadd, 1) := by decide +kernel
set_option maxRecDepth 20000 in
theorem dX11_learns_20 : decode cX11_learns 20 = .ok (.iaload, 1) := by decide +kernel
set_option maxRecDepth 20000 in
theorem dX11_learns_21 : decode cX11_learns 21 = .ok (.istore_n 2, 1) := by decide +kernel
set_option maxRecDepth 20000 in
theorem dX11_learns_22 : decode cX11_learns 22 = .ok (.aload_n 0, 1) := by decide +kernel
set_option maxRecDepth 20000 in
theorem dX11_learns_23 : decode cX11_learns 23 = .ok (.getfield 27, 3) := by decide +kernel
set_option maxRecDepth 20000 in
theorem dX11_learns_26 : decode cX11_learns 26 = .ok (.iload_n 1, 1) := by decide +kernel
set_option maxRecDepth 20000 in
theorem dX11_learns_27 : decode cX11_learns 27 = .ok (.iaload, 1) := by decide +kernel
set_option maxRecDepth 20000 in
theorem dX11_learns_28 : decode cX11_learns 28 = .ok (.ifCond .le 21, 3) := by decide +kernel
set_option maxRecDepth 20000 in
theorem dX11_learns_31 : decode cX11_learns 31 = .ok (.iload_n 2, 1) := by decide +kernel
set_option maxRecDepth 20000 in
theorem dX11_learns_32 : decode cX11_learns 32 = .ok (.ifCond .eq 13, 3) := by decide +kernel
set_option maxRecDepth 20000 in
theorem dX11_learns_35 : decode cX11_learns 35 = .ok (.iload_n 2, 1) := by decide +kernel
set_option maxRecDepth 20000 in
theorem dX11_learns_36 : decode cX11_learns 36 = .ok (.iconst 2, 1) := by decide +kernel
set_option maxRecDepth 20000 in
theorem dX11_learns_37 : decode cX11_learns 37 = .ok (.if_icmp .eq 8, 3) := by decide +kernel
set_option maxRecDepth 20000 in
theorem dX11_learns_40 : decode cX11_learns 40 = .ok (.iload_n 2, 1) := by decide +kernel
set_option maxRecDepth 20000 in
theorem dX11_learns_41 : decode cX11_learns 41 = .ok (.iconst 5, 1) := by decide +kernel
set_option maxRecDepth 20000 in
theorem dX11_learns_42 : decode cX11_learns 42 = .ok (.if_icmp .ne 7, 3) := by decide +kernel
set_option maxRecDepth 20000 in
theorem dX11_learns_45 : decode cX11_learns 45 = .ok (.iconst 1, 1) := by decide +kernel
set_option maxRecDepth 20000 in
theorem dX11_learns_46 : decode cX11_learns 46 = .ok (.goto 4, 3) := by decide +kernel
set_option maxRecDepth 20000 in
theorem dX11_learns_49 : decode cX11_learns 49 = .ok (.iconst 0, 1) := by decide +kernel
set_option maxRecDepth 20000 in
theorem dX11_learns_50 : decode cX11_learns 50 = .ok (.istore_n 3, 1) := by decide +kernel
set_option maxRecDepth 20000 in
theorem dX11_learns_51 : decode cX11_learns 51 = .ok (.iload_n 3, 1) := by decide +kernel
set_option maxRecDepth 20000 in
theorem dX11_learns_52 : decode cX11_learns 52 = .ok (.ifCond .eq 15, 3) := by decide +kernel
set_option maxRecDepth 20000 in
theorem dX11_learns_55 : decode cX11_learns 55 = .ok (.aload_n 0, 1) := by decide +kernel
set_option maxRecDepth 20000 in
theorem dX11_learns_56 : decode cX11_learns 56 = .ok (.iload_n 1, 1) := by decide +kernel
set_option maxRecDepth 20000 in
theorem dX11_learns_57 : decode cX11_learns 57 = .ok (.invokevirtual 193, 3) := by decide +kernel
set_option maxRecDepth 20000 in
theorem dX11_learns_60 : decode cX11_learns 60 = .ok (.ifCond .eq 7, 3) := by decide +kernel
set_option maxRecDepth 20000 in
theorem dX11_learns_63 : decode cX11_learns 63 = .ok (.iconst 1, 1) := by decide +kernel
set_option maxRecDepth 20000 in
theorem dX11_learns_64 : decode cX11_learns 64 = .ok (.goto 22, 3) := by decide +kernel
set_option maxRecDepth 20000 in
theorem dX11_learns_67 : decode cX11_learns 67 = .ok (.iload_n 2, 1) := by decide +kernel
set_option maxRecDepth 20000 in
theorem dX11_learns_68 : decode cX11_learns 68 = .ok (.iconst 1, 1) := by decide +kernel
set_option maxRecDepth 20000 in
theorem dX11_learns_69 : decode cX11_learns 69 = .ok (.if_icmp .ne 16, 3) := by decide +kernel
set_option maxRecDepth 20000 in
theorem dX11_learns_72 : decode cX11_learns 72 = .ok (.aload_n 0, 1) := by decide +kernel
set_option maxRecDepth 20000 in
theorem dX11_learns_73 : decode cX11_learns 73 = .ok (.getfield 30, 3) := by decide +kernel
set_option maxRecDepth 20000 in
theorem dX11_learns_76 : decode cX11_learns 76 = .ok (.iload_n 1, 1) := by decide +kernel
set_option maxRecDepth 20000 in
theorem dX11_learns_77 : decode cX11_learns 77 = .ok (.baload, 1) := by decide +kernel
set_option maxRecDepth 20000 in
theorem dX11_learns_78 : decode cX11_learns 78 = .ok (.ifCond .ne 7, 3) := by decide +kernel
set_option maxRecDepth 20000 in
theorem dX11_learns_81 : decode cX11_learns 81 = .ok (.iconst 0, 1) := by decide +kernel
set_option maxRecDepth 20000 in
theorem dX11_learns_82 : decode cX11_learns 82 = .ok (.goto 4, 3) := by decide +kernel
set_option maxRecDepth 20000 in
theorem dX11_learns_85 : decode cX11_learns 85 = .ok (.iload_n 2, 1) := by decide +kernel
set_option maxRecDepth 20000 in
theorem dX11_learns_86 : decode cX11_learns 86 = .ok (.istore 4, 2) := by decide +kernel
set_option maxRecDepth 20000 in
theorem dX11_learns_88 : decode cX11_learns 88 = .ok (.aload_n 0, 1) := by decide +kernel
set_option maxRecDepth 20000 in
theorem dX11_learns_89 : decode cX11_learns 89 = .ok (.getfield 7, 3) := by decide +kernel
set_option maxRecDepth 20000 in
theorem dX11_learns_92 : decode cX11_learns 92 = .ok (.bipush 28, 2) := by decide +kernel
set_option maxRecDepth 20000 in
theorem dX11_learns_94 : decode cX11_learns 94 = .ok (.iload_n 1, 1) := by decide +kernel
set_option maxRecDepth 20000 in
theorem dX11_learns_95 : decode cX11_learns 95 = .ok (.iadd, 1) := by decide +kernel
set_option maxRecDepth 20000 in
theorem dX11_learns_96 : decode cX11_learns 96 = .ok (.iload 4, 2) := by decide +kernel
set_option maxRecDepth 20000 in
theorem dX11_learns_98 : decode cX11_learns 98 = .ok (.iastore, 1) := by decide +kernel
set_option maxRecDepth 20000 in
theorem dX11_learns_99 : decode cX11_learns 99 = .ok (.iinc 1 1, 3) := by decide +kernel
set_option maxRecDepth 20000 in
theorem dX11_learns_102 : decode cX11_learns 102 = .ok (.goto (-100), 3) := by decide +kernel
set_option maxRecDepth 20000 in
theorem dX11_learns_105 : decode cX11_learns 105 = .ok (.return_, 1) := by decide +kernel
set_option maxRecDepth 20000 in
theorem dX11_minds_0 : decode cX11_minds 0 = .ok (.aload_n 0, 1) := by decide +kernel
set_option maxRecDepth 20000 in
theorem dX11_minds_1 : decode cX11_minds 1 = .ok (.getfield 7, 3) := by decide +kernel
set_option maxRecDepth 20000 in
theorem dX11_minds_4 : decode cX11_minds 4 = .ok (.bipush 7, 2) := by decide +kernel
set_option maxRecDepth 20000 in
theorem dX11_minds_6 : decode cX11_minds 6 = .ok (.iaload, 1) := by decide +kernel
set_option maxRecDepth 20000 in
theorem dX11_minds_7 : decode cX11_minds 7 = .ok (.bipush 8, 2) := by decide +kernel
set_option maxRecDepth 20000 in
theorem dX11_minds_9 : decode cX11_minds 9 = .ok (.if_icmp .ne 49, 3) := by decide +kernel
set_option maxRecDepth 20000 in
theorem dX11_minds_12 : decode cX11_minds 12 = .ok (.iconst 0, 1) := by decide +kernel
set_option maxRecDepth 20000 in
theorem dX11_minds_13 : decode cX11_minds 13 = .ok (.istore_n 1, 1) := by decide +kernel
set_option maxRecDepth 20000 in
theorem dX11_minds_14 : decode cX11_minds 14 = .ok (.iload_n 1, 1) := by decide +kernel
set_option maxRecDepth 20000 in
theorem dX11_minds_15 : decode cX11_minds 15 = .ok (.bipush 70, 2) := by decide +kernel
set_option maxRecDepth 20000 in
theorem dX11_minds_17 : decode cX11_minds 17 = .ok (.if_icmp .ge 30, 3) := by decide +kernel
set_option maxRecDepth 20000 in
theorem dX11_minds_20 : decode cX11_minds 20 = .ok (.aload_n 0, 1) := by decide +kernel
set_option maxRecDepth 20000 in
theorem dX11_minds_21 : decode cX11_minds 21 = .ok (.getfield 7, 3) := by decide +kernel
set_option maxRecDepth 20000 in
theorem dX11_minds_24 : decode cX11_minds 24 = .ok (.bipush 72, 2) := by decide +kernel
set_option maxRecDepth 20000 in
theorem dX11_minds_26 : decode cX11_minds 26 = .ok (.iload_n 1, 1) := by decide +kernel
set_option maxRecDepth 20000 in
theorem dX11_minds_27 : decode cX11_minds 27 = .ok (.iadd, 1) := by decide +kernel
set_option maxRecDepth 20000 in
theorem dX11_minds_28 : decode cX11_minds 28 = .ok (.aload_n 0, 1) := by decide +kernel
set_option maxRecDepth 20000 in
theorem dX11_minds_29 : decode cX11_minds 29 = .ok (.getfield 7, 3) := by decide +kernel
set_option maxRecDepth 20000 in
theorem dX11_minds_32 : decode cX11_minds 32 = .ok (.bipush 72, 2) := by decide +kernel
set_option maxRecDepth 20000 in
theorem dX11_minds_34 : decode cX11_minds 34 = .ok (.iload_n 1, 1) := by decide +kernel
set_option maxRecDepth 20000 in
theorem dX11_minds_35 : decode cX11_minds 35 = .ok (.iadd, 1) := by decide +kernel
set_option maxRecDepth 20000 in
theorem dX11_minds_36 : decode cX11_minds 36 = .ok (.bipush 10, 2) := by decide +kernel
set_option maxRecDepth 20000 in
theorem dX11_minds_38 : decode cX11_minds 38 = .ok (.iadd, 1) := by decide +kernel
set_option maxRecDepth 20000 in
theorem dX11_minds_39 : decode cX11_minds 39 = .ok (.iaload, 1) := by decide +kernel
set_option maxRecDepth 20000 in
theorem dX11_minds_40 : decode cX11_minds 40 = .ok (.iastore, 1) := by decide +kernel
set_option maxRecDepth 20000 in
theorem dX11_minds_41 : decode cX11_minds 41 = .ok (.iinc 1 1, 3) := by decide +kernel
set_option maxRecDepth 20000 in
theorem dX11_minds_44 : decode cX11_minds 44 = .ok (.goto (-30), 3) := by decide +kernel
set_option maxRecDepth 20000 in
theorem dX11_minds_47 : decode cX11_minds 47 = .ok (.aload_n 0, 1) := by decide +kernel
set_option maxRecDepth 20000 in
theorem dX11_minds_48 : decode cX11_minds 48 = .ok (.getfield 7, 3) := by decide +kernel
set_option maxRecDepth 20000 in
theorem dX11_minds_51 : decode cX11_minds 51 = .ok (.bipush 7, 2) := by decide +kernel
set_option maxRecDepth 20000 in
theorem dX11_minds_53 : decode cX11_minds 53 = .ok (.dup2, 1) := by decide +kernel
set_option maxRecDepth 20000 in
theorem dX11_minds_54 : decode cX11_minds 54 = .ok (.iaload, 1) := by decide +kernel
set_option maxRecDepth 20000 in
theorem dX11_minds_55 : decode cX11_minds 55 = .ok (.iconst 1, 1) := by decide +kernel
set_option maxRecDepth 20000 in
theorem dX11_minds_56 : decode cX11_minds 56 = .ok (.isub, 1) := by decide +kernel
set_option maxRecDepth 20000 in
theorem dX11_minds_57 : decode cX11_minds 57 = .ok (.iastore, 1) := by decide +kernel
set_option maxRecDepth 20000 in
theorem dX11_minds_58 : decode cX11_minds 58 = .ok (.bipush 72, 2) := by decide +kernel
set_option maxRecDepth 20000 in
theorem dX11_minds_60 : decode cX11_minds 60 = .ok (.bipush 10, 2) := by decide +kernel
set_option maxRecDepth 20000 in
theorem dX11_minds_62 : decode cX11_minds 62 = .ok (.aload_n 0, 1) := by decide +kernel
set_option maxRecDepth 20000 in
theorem dX11_minds_63 : decode cX11_minds 63 = .ok (.getfield 7, 3) := by decide +kernel
set_option maxRecDepth 20000 in
theorem dX11_minds_66 : decode cX11_minds 66 = .ok (.bipush 7, 2) := by decide +kernel
set_option maxRecDepth 20000 in
theorem dX11_minds_68 : decode cX11_minds 68 = .ok (.iaload, 1) := by decide +kernel
set_option maxRecDepth 20000 in
theorem dX11_minds_69 : decode cX11_minds 69 = .ok (.imul, 1) := by decide +kernel
set_option maxRecDepth 20000 in
theorem dX11_minds_70 : decode cX11_minds 70 = .ok (.iadd, 1) := by decide +kernel
set_option maxRecDepth 20000 in
theorem dX11_minds_71 : decode cX11_minds 71 = .ok (.istore_n 1, 1) := by decide +kernel
set_option maxRecDepth 20000 in
theorem dX11_minds_72 : decode cX11_minds 72 = .ok (.iconst 0, 1) := by decide +kernel
set_option maxRecDepth 20000 in
theorem dX11_minds_73 : decode cX11_minds 73 = .ok (.istore_n 2, 1) := by decide +kernel
set_option maxRecDepth 20000 in
theorem dX11_minds_74 : decode cX11_minds 74 = .ok (.iload_n 2, 1) := by decide +kernel
set_option maxRecDepth 20000 in
theorem dX11_minds_75 : decode cX11_minds 75 = .ok (.bipush 8, 2) := by decide +kernel
set_option maxRecDepth 20000 in
theorem dX11_minds_77 : decode cX11_minds 77 = .ok (.if_icmp .ge 26, 3) := by decide +kernel
set_option maxRecDepth 20000 in
theorem dX11_minds_80 : decode cX11_minds 80 = .ok (.aload_n 0, 1) := by decide +kernel
set_option maxRecDepth 20000 in
theorem dX11_minds_81 : decode cX11_minds 81 = .ok (.getfield 7, 3) := by decide +kernel
set_option maxRecDepth 20000 in
theorem dX11_minds_84 : decode cX11_minds 84 = .ok (.iload_n 1, 1) := by decide +kernel
set_option maxRecDepth 20000 in
theorem dX11_minds_85 : decode cX11_minds 85 = .ok (.iload_n 2, 1) := by decide +kernel
set_option maxRecDepth 20000 in
theorem dX11_minds_86 : decode cX11_minds 86 = .ok (.iadd, 1) := by decide +kernel
set_option maxRecDepth 20000 in
theorem dX11_minds_87 : decode cX11_minds 87 = .ok (.aload_n 0, 1) := by decide +kernel
set_option maxRecDepth 20000 in
theorem dX11_minds_88 : decode cX11_minds 88 = .ok (.getfield 7, 3) := by decide +kernel
set_option maxRecDepth 20000 in
theorem dX11_minds_91 : decode cX11_minds 91 = .ok (.bipush 28, 2) := by decide +kernel
set_option maxRecDepth 20000 in
theorem dX11_minds_93 : decode cX11_minds 93 = .ok (.iload_n 2, 1) := by decide +kernel
set_option maxRecDepth 20000 in
theorem dX11_minds_94 : decode cX11_minds 94 = .ok (.iadd, 1) := by decide +kernel
set_option maxRecDepth 20000 in
theorem dX11_minds_95 : decode cX11_minds 95 = .ok (.iaload, 1) := by decide +kernel
set_option maxRecDepth 20000 in
theorem dX11_minds_96 : decode cX11_minds 96 = .ok (.iastore, 1) := by decide +kernel
set_option maxRecDepth 20000 in
theorem dX11_minds_97 : decode cX11_minds 97 = .ok (.iinc 2 1, 3) := by decide +kernel
set_option maxRecDepth 20000 in
theorem dX11_minds_100 : decode cX11_minds 100 = .ok (.goto (-26), 3) := by decide +kernel
set_option maxRecDepth 20000 in
theorem dX11_minds_103 : decode cX11_minds 103 = .ok (.aload_n 0, 1) := by decide +kernel
set_option maxRecDepth 20000 in
theorem dX11_minds_104 : decode cX11_minds 104 = .ok (.getfield 7, 3) := by decide +kernel
set_option maxRecDepth 20000 in
theorem dX11_minds_107 : decode cX11_minds 107 = .ok (.iload_n 1, 1) := by decide +kernel
set_option maxRecDepth 20000 in
theorem dX11_minds_108 : decode cX11_minds 108 = .ok (.bipush 8, 2) := by decide +kernel
set_option maxRecDepth 20000 in
theorem dX11_minds_110 : decode cX11_minds 110 = .ok (.iadd, 1) := by decide +kernel
set_option maxRecDepth 20000 in
theorem dX11_minds_111 : decode cX11_minds 111 = .ok (.aload_n 0, 1) := by decide +kernel
set_option maxRecDepth 20000 in
theorem dX11_minds_112 : decode cX11_minds 112 = .ok (.getfield 7, 3) := by decide +kernel
set_option maxRecDepth 20000 in
theorem dX11_minds_115 : decode cX11_minds 115 = .ok (.iconst 4, 1) := by decide +kernel
set_option maxRecDepth 20000 in
theorem dX11_minds_116 : decode cX11_minds 116 = .ok (.iaload, 1) := by decide +kernel
set_option maxRecDepth 20000 in
theorem dX11_minds_117 : decode cX11_minds 117 = .ok (.iastore, 1) := by decide +kernel
set_option maxRecDepth 20000 in
theorem dX11_minds_118 : decode cX11_minds 118 = .ok (.aload_n 0, 1) := by decide +kernel
set_option maxRecDepth 20000 in
theorem dX11_minds_119 : decode cX11_minds 119 = .ok (.getfield 7, 3) := by decide +kernel
set_option maxRecDepth 20000 in
theorem dX11_minds_122 : decode cX11_minds 122 = .ok (.iload_n 1, 1) := by decide +kernel
set_option maxRecDepth 20000 in
theorem dX11_minds_123 : decode cX11_minds 123 = .ok (.bipush 9, 2) := by decide +kernel
set_option maxRecDepth 20000 in
theorem dX11_minds_125 : decode cX11_minds 125 = .ok (.iadd, 1) := by decide +kernel
set_option maxRecDepth 20000 in
theorem dX11_minds_126 : decode cX11_minds 126 = .ok (.aload_n 0, 1) := by decide +kernel
set_option maxRecDepth 20000 in
theorem dX11_minds_127 : decode cX11_minds 127 = .ok (.getfield 7, 3) := by decide +kernel
set_option maxRecDepth 20000 in
theorem dX11_minds_130 : decode cX11_minds 130 = .ok (.iconst 5, 1) := by decide +kernel
set_option maxRecDepth 20000 in
theorem dX11_minds_131 : decode cX11_minds 131 = .ok (.iaload, 1) := by decide +kernel
set_option maxRecDepth 20000 in
theorem dX11_minds_132 : decode cX11_minds 132 = .ok (.iastore, 1) := by decide +kernel
set_option maxRecDepth 20000 in
theorem dX11_minds_133 : decode cX11_minds 133 = .ok (.aload_n 0, 1) := by decide +kernel
set_option maxRecDepth 20000 in
theorem dX11_minds_134 : decode cX11_minds 134 = .ok (.getfield 7, 3) := by decide +kernel
set_option maxRecDepth 20000 in
theorem dX11_minds_137 : decode cX11_minds 137 = .ok (.bipush 7, 2) := by decide +kernel
set_option maxRecDepth 20000 in
theorem dX11_minds_139 : decode cX11_minds 139 = .ok (.dup2, 1) := by decide +kernel
set_option maxRecDepth 20000 in
theorem dX11_minds_140 : decode cX11_minds 140 = .ok (.iaload, 1) := by decide +kernel
set_option maxRecDepth 20000 in
theorem dX11_minds_141 : decode cX11_minds 141 = .ok (.iconst 1, 1) := by decide +kernel
set_option maxRecDepth 20000 in
theorem dX11_minds_142 : decode cX11_minds 142 = .ok (.iadd, 1) := by decide +kernel
set_option maxRecDepth 20000 in
theorem dX11_minds_143 : decode cX11_minds 143 = .ok (.iastore, 1) := by decide +kernel
set_option maxRecDepth 20000 in
theorem dX11_minds_144 : decode cX11_minds 144 = .ok (.return_, 1) := by decide +kernel
set_option maxRecDepth 20000 in
theorem dX11_day_0 : decode cX11_day 0 = .ok (.aload_n 0, 1) := by decide +kernel
set_option maxRecDepth 20000 in
theorem dX11_day_1 : decode cX11_day 1 = .ok (.invokevirtual 196, 3) := by decide +kernel
set_option maxRecDepth 20000 in
theorem dX11_day_4 : decode cX11_day 4 = .ok (.aload_n 0, 1) := by decide +kernel
set_option maxRecDepth 20000 in
theorem dX11_day_5 : decode cX11_day 5 = .ok (.invokevirtual 199, 3) := by decide +kernel
set_option maxRecDepth 20000 in
theorem dX11_day_8 : decode cX11_day 8 = .ok (.aload_n 0, 1) := by decide +kernel
set_option maxRecDepth 20000 in
theorem dX11_day_9 : decode cX11_day 9 = .ok (.getfield 7, 3) := by decide +kernel
set_option maxRecDepth 20000 in
theorem dX11_day_12 : decode cX11_day 12 = .ok (.iconst 4, 1) := by decide +kernel
set_option maxRecDepth 20000 in
theorem dX11_day_13 : decode cX11_day 13 = .ok (.dup2, 1) := by decide +kernel
set_option maxRecDepth 20000 in
theorem dX11_day_14 : decode cX11_day 14 = .ok (.iaload, 1) := by decide +kernel
set_option maxRecDepth 20000 in
theorem dX11_day_15 : decode cX11_day 15 = .ok (.aload_n 0, 1) := by decide +kernel
set_option maxRecDepth 20000 in
theorem dX11_day_16 : decode cX11_day 16 = .ok (.getfield 177, 3) := by decide +kernel
set_option maxRecDepth 20000 in
theorem dX11_day_19 : decode cX11_day 19 = .ok (.iadd, 1) := by decide +kernel
set_option maxRecDepth 20000 in
theorem dX11_day_20 : decode cX11_day 20 = .ok (.iastore, 1) := by decide +kernel
set_option maxRecDepth 20000 in
theorem dX11_day_21 : decode cX11_day 21 = .ok (.aload_n 0, 1) := by decide +kernel
set_option maxRecDepth 20000 in
theorem dX11_day_22 : decode cX11_day 22 = .ok (.getfield 7, 3) := by decide +kernel
set_option maxRecDepth 20000 in
theorem dX11_day_25 : decode cX11_day 25 = .ok (.iconst 5, 1) := by decide +kernel
set_option maxRecDepth 20000 in
theorem dX11_day_26 : decode cX11_day 26 = .ok (.dup2, 1) := by decide +kernel
set_option maxRecDepth 20000 in
theorem dX11_day_27 : decode cX11_day 27 = .ok (.iaload, 1) := by decide +kernel
set_option maxRecDepth 20000 in
theorem dX11_day_28 : decode cX11_day 28 = .ok (.aload_n 0, 1) := by decide +kernel
set_option maxRecDepth 20000 in
theorem dX11_day_29 : decode cX11_day 29 = .ok (.getfield 174, 3) := by decide +kernel
set_option maxRecDepth 20000 in
theorem dX11_day_32 : decode cX11_day 32 = .ok (.iadd, 1) := by decide +kernel
set_option maxRecDepth 20000 in
theorem dX11_day_33 : decode cX11_day 33 = .ok (.iastore, 1) := by decide +kernel
set_option maxRecDepth 20000 in
theorem dX11_day_34 : decode cX11_day 34 = .ok (.aload_n 0, 1) := by decide +kernel
set_option maxRecDepth 20000 in
theorem dX11_day_35 : decode cX11_day 35 = .ok (.invokevirtual 202, 3) := by decide +kernel
set_option maxRecDepth 20000 in
theorem dX11_day_38 : decode cX11_day 38 = .ok (.aload_n 0, 1) := by decide +kernel
set_option maxRecDepth 20000 in
theorem dX11_day_39 : decode cX11_day 39 = .ok (.getfield 177, 3) := by decide +kernel
set_option maxRecDepth 20000 in
theorem dX11_day_42 : decode cX11_day 42 = .ok (.ireturn, 1) := by decide +kernel
set_option maxRecDepth 20000 in
theorem dX11_undo_0 : decode cX11_undo 0 = .ok (.aload_n 0, 1) := by decide +kernel
set_option maxRecDepth 20000 in
theorem dX11_undo_1 : decode cX11_undo 1 = .ok (.getfield 7, 3) := by decide +kernel
set_option maxRecDepth 20000 in
theorem dX11_undo_4 : decode cX11_undo 4 = .ok (.bipush 7, 2) := by decide +kernel
set_option maxRecDepth 20000 in
theorem dX11_undo_6 : decode cX11_undo 6 = .ok (.iaload, 1) := by decide +kernel
set_option maxRecDepth 20000 in
theorem dX11_undo_7 : decode cX11_undo 7 = .ok (.ifCond .ne 8, 3) := by decide +kernel
set_option maxRecDepth 20000 in
theorem dX11_undo_10 : decode cX11_undo 10 = .ok (.aload_n 0, 1) := by decide +kernel
set_option maxRecDepth 20000 in
theorem dX11_undo_11 : decode cX11_undo 11 = .ok (.invokevirtual 205, 3) := by decide +kernel
set_option maxRecDepth 20000 in
theorem dX11_undo_14 : decode cX11_undo 14 = .ok (.ireturn, 1) := by decide +kernel
set_option maxRecDepth 20000 in
theorem dX11_undo_15 : decode cX11_undo 15 = .ok (.aload_n 0, 1) := by decide +kernel
set_option maxRecDepth 20000 in
theorem dX11_undo_16 : decode cX11_undo 16 = .ok (.getfield 7, 3) := by decide +kernel
set_option maxRecDepth 20000 in
theorem dX11_undo_19 : decode cX11_undo 19 = .ok (.bipush 7, 2) := by decide +kernel
set_option maxRecDepth 20000 in
theorem dX11_undo_21 : decode cX11_undo 21 = .ok (.dup2, 1) := by decide +kernel
set_option maxRecDepth 20000 in
theorem dX11_undo_22 : decode cX11_undo 22 = .ok (.iaload, 1) := by decide +kernel
set_option maxRecDepth 20000 in
theorem dX11_undo_23 : decode cX11_undo 23 = .ok (.iconst 1, 1) := by decide +kernel
set_option maxRecDepth 20000 in
theorem dX11_undo_24 : decode cX11_undo 24 = .ok (.isub, 1) := by decide +kernel
set_option maxRecDepth 20000 in
theorem dX11_undo_25 : decode cX11_undo 25 = .ok (.iastore, 1) := by decide +kernel
set_option maxRecDepth 20000 in
theorem dX11_undo_26 : decode cX11_undo 26 = .ok (.bipush 72, 2) := by decide +kernel
set_option maxRecDepth 20000 in
theorem dX11_undo_28 : decode cX11_undo 28 = .ok (.bipush 10, 2) := by decide +kernel
set_option maxRecDepth 20000 in
theorem dX11_undo_30 : decode cX11_undo 30 = .ok (.aload_n 0, 1) := by decide +kernel
set_option maxRecDepth 20000 in
theorem dX11_undo_31 : decode cX11_undo 31 = .ok (.getfield 7, 3) := by decide +kernel
set_option maxRecDepth 20000 in
theorem dX11_undo_34 : decode cX11_undo 34 = .ok (.bipush 7, 2) := by decide +kernel
set_option maxRecDepth 20000 in
theorem dX11_undo_36 : decode cX11_undo 36 = .ok (.iaload, 1) := by decide +kernel
set_option maxRecDepth 20000 in
theorem dX11_undo_37 : decode cX11_undo 37 = .ok (.imul, 1) := by decide +kernel
set_option maxRecDepth 20000 in
theorem dX11_undo_38 : decode cX11_undo 38 = .ok (.iadd, 1) := by decide +kernel
set_option maxRecDepth 20000 in
theorem dX11_undo_39 : decode cX11_undo 39 = .ok (.istore_n 1, 1) := by decide +kernel
set_option maxRecDepth 20000 in
theorem dX11_undo_40 : decode cX11_undo 40 = .ok (.iconst 0, 1) := by decide +kernel
set_option maxRecDepth 20000 in
theorem dX11_undo_41 : decode cX11_undo 41 = .ok (.istore_n 2, 1) := by decide +kernel
set_option maxRecDepth 20000 in
theorem dX11_undo_42 : decode cX11_undo 42 = .ok (.iload_n 2, 1) := by decide +kernel
set_option maxRecDepth 20000 in
theorem dX11_undo_43 : decode cX11_undo 43 = .ok (.bipush 8, 2) := by decide +kernel
set_option maxRecDepth 20000 in
theorem dX11_undo_45 : decode cX11_undo 45 = .ok (.if_icmp .ge 26, 3) := by decide +kernel
set_option maxRecDepth 20000 in
theorem dX11_undo_48 : decode cX11_undo 48 = .ok (.aload_n 0, 1) := by decide +kernel
set_option maxRecDepth 20000 in
theorem dX11_undo_49 : decode cX11_undo 49 = .ok (.getfield 7, 3) := by decide +kernel
set_option maxRecDepth 20000 in
theorem dX11_undo_52 : decode cX11_undo 52 = .ok (.bipush 28, 2) := by decide +kernel
set_option maxRecDepth 20000 in
theorem dX11_undo_54 : decode cX11_undo 54 = .ok (.iload_n 2, 1) := by decide +kernel
set_option maxRecDepth 20000 in
theorem dX11_undo_55 : decode cX11_undo 55 = .ok (.iadd, 1) := by decide +kernel
set_option maxRecDepth 20000 in
theorem dX11_undo_56 : decode cX11_undo 56 = .ok (.aload_n 0, 1) := by decide +kernel
set_option maxRecDepth 20000 in
theorem dX11_undo_57 : decode cX11_undo 57 = .ok (.getfield 7, 3) := by decide +kernel
set_option maxRecDepth 20000 in
theorem dX11_undo_60 : decode cX11_undo 60 = .ok (.iload_n 1, 1) := by decide +kernel
set_option maxRecDepth 20000 in
theorem dX11_undo_61 : decode cX11_undo 61 = .ok (.iload_n 2, 1) := by decide +kernel
set_option maxRecDepth 20000 in
theorem dX11_undo_62 : decode cX11_undo 62 = .ok (.iadd, 1) := by decide +kernel
set_option maxRecDepth 20000 in
theorem dX11_undo_63 : decode cX11_undo 63 = .ok (.iaload, 1) := by decide +kernel
set_option maxRecDepth 20000 in
theorem dX11_undo_64 : decode cX11_undo 64 = .ok (.iastore, 1) := by decide +kernel
set_option maxRecDepth 20000 in
theorem dX11_undo_65 : decode cX11_undo 65 = .ok (.iinc 2 1, 3) := by decide +kernel
set_option maxRecDepth 20000 in
theorem dX11_undo_68 : decode cX11_undo 68 = .ok (.goto (-26), 3) := by decide +kernel
set_option maxRecDepth 20000 in
theorem dX11_undo_71 : decode cX11_undo 71 = .ok (.aload_n 0, 1) := by decide +kernel
set_option maxRecDepth 20000 in
theorem dX11_undo_72 : decode cX11_undo 72 = .ok (.getfield 7, 3) := by decide +kernel
set_option maxRecDepth 20000 in
theorem dX11_undo_75 : decode cX11_undo 75 = .ok (.iconst 4, 1) := by decide +kernel
set_option maxRecDepth 20000 in
theorem dX11_undo_76 : decode cX11_undo 76 = .ok (.aload_n 0, 1) := by decide +kernel
set_option maxRecDepth 20000 in
theorem dX11_undo_77 : decode cX11_undo 77 = .ok (.getfield 7, 3) := by decide +kernel
set_option maxRecDepth 20000 in
theorem dX11_undo_80 : decode cX11_undo 80 = .ok (.iload_n 1, 1) := by decide +kernel
set_option maxRecDepth 20000 in
theorem dX11_undo_81 : decode cX11_undo 81 = .ok (.bipush 8, 2) := by decide +kernel
set_option maxRecDepth 20000 in
theorem dX11_undo_83 : decode cX11_undo 83 = .ok (.iadd, 1) := by decide +kernel
set_option maxRecDepth 20000 in
theorem dX11_undo_84 : decode cX11_undo 84 = .ok (.iaload, 1) := by decide +kernel
set_option maxRecDepth 20000 in
theorem dX11_undo_85 : decode cX11_undo 85 = .ok (.iastore, 1) := by decide +kernel
set_option maxRecDepth 20000 in
theorem dX11_undo_86 : decode cX11_undo 86 = .ok (.aload_n 0, 1) := by decide +kernel
set_option maxRecDepth 20000 in
theorem dX11_undo_87 : decode cX11_undo 87 = .ok (.getfield 7, 3) := by decide +kernel
set_option maxRecDepth 20000 in
theorem dX11_undo_90 : decode cX11_undo 90 = .ok (.iconst 5, 1) := by decide +kernel
set_option maxRecDepth 20000 in
theorem dX11_undo_91 : decode cX11_undo 91 = .ok (.aload_n 0, 1) := by decide +kernel
set_option maxRecDepth 20000 in
theorem dX11_undo_92 : decode cX11_undo 92 = .ok (.getfield 7, 3) := by decide +kernel
set_option maxRecDepth 20000 in
theorem dX11_undo_95 : decode cX11_undo 95 = .ok (.iload_n 1, 1) := by decide +kernel
set_option maxRecDepth 20000 in
theorem dX11_undo_96 : decode cX11_undo 96 = .ok (.bipush 9, 2) := by decide +kernel
set_option maxRecDepth 20000 in
theorem dX11_undo_98 : decode cX11_undo 98 = .ok (.iadd, 1) := by decide +kernel
set_option maxRecDepth 20000 in
theorem dX11_undo_99 : decode cX11_undo 99 = .ok (.iaload, 1) := by decide +kernel
set_option maxRecDepth 20000 in
theorem dX11_undo_100 : decode cX11_undo 100 = .ok (.iastore, 1) := by decide +kernel
set_option maxRecDepth 20000 in
theorem dX11_undo_101 : decode cX11_undo 101 = .ok (.aload_n 0, 1) := by decide +kernel
set_option maxRecDepth 20000 in
theorem dX11_undo_102 : decode cX11_undo 102 = .ok (.getfield 7, 3) := by decide +kernel
set_option maxRecDepth 20000 in
theorem dX11_undo_105 : decode cX11_undo 105 = .ok (.iconst 4, 1) := by decide +kernel
set_option maxRecDepth 20000 in
theorem dX11_undo_106 : decode cX11_undo 106 = .ok (.iaload, 1) := by decide +kernel
set_option maxRecDepth 20000 in
theorem dX11_undo_107 : decode cX11_undo 107 = .ok (.ireturn, 1) := by decide +kernel
set_option maxRecDepth 20000 in
theorem dX11_of_0 : decode cX11_of 0 = .ok (.iload_n 1, 1) := by decide +kernel
set_option maxRecDepth 20000 in
theorem dX11_of_1 : decode cX11_of 1 = .ok (.invokestatic 69, 3) := by decide +kernel
set_option maxRecDepth 20000 in
theorem dX11_of_4 : decode cX11_of 4 = .ok (.ifCond .eq 15, 3) := by decide +kernel
set_option maxRecDepth 20000 in
theorem dX11_of_7 : decode cX11_of 7 = .ok (.iload_n 2, 1) := by decide +kernel
set_option maxRecDepth 20000 in
theorem dX11_of_8 : decode cX11_of 8 = .ok (.i2l, 1) := by decide +kernel
set_option maxRecDepth 20000 in
theorem dX11_of_9 : decode cX11_of 9 = .ok (.lconst 0, 1) := by decide +kernel
set_option maxRecDepth 20000 in
theorem dX11_of_10 : decode cX11_of 10 = .ok (.ldc2_w 79, 3) := by decide +kernel
set_option maxRecDepth 20000 in
theorem dX11_of_13 : decode cX11_of 13 = .ok (.invokestatic 51, 3) := by decide +kernel
set_option maxRecDepth 20000 in
theorem dX11_of_16 : decode cX11_of 16 = .ok (.ifCond .ne 8, 3) := by decide +kernel
set_option maxRecDepth 20000 in
theorem dX11_of_19 : decode cX11_of 19 = .ok (.aload_n 0, 1) := by decide +kernel
set_option maxRecDepth 20000 in
theorem dX11_of_20 : decode cX11_of 20 = .ok (.invokevirtual 61, 3) := by decide +kernel
set_option maxRecDepth 20000 in
theorem dX11_of_23 : decode cX11_of 23 = .ok (.ireturn, 1) := by decide +kernel
set_option maxRecDepth 20000 in
theorem dX11_of_24 : decode cX11_of 24 = .ok (.aload_n 0, 1) := by decide +kernel
set_option maxRecDepth 20000 in
theorem dX11_of_25 : decode cX11_of 25 = .ok (.invokevirtual 199, 3) := by decide +kernel
set_option maxRecDepth 20000 in
theorem dX11_of_28 : decode cX11_of 28 = .ok (.iload_n 2, 1) := by decide +kernel
set_option maxRecDepth 20000 in
theorem dX11_of_29 : decode cX11_of 29 = .ok (.ifCond .ne 15, 3) := by decide +kernel
set_option maxRecDepth 20000 in
theorem dX11_of_32 : decode cX11_of 32 = .ok (.aload_n 0, 1) := by decide +kernel
set_option maxRecDepth 20000 in
theorem dX11_of_33 : decode cX11_of 33 = .ok (.getfield 7, 3) := by decide +kernel
set_option maxRecDepth 20000 in
theorem dX11_of_36 : decode cX11_of 36 = .ok (.bipush 8, 2) := by decide +kernel
set_option maxRecDepth 20000 in
theorem dX11_of_38 : decode cX11_of 38 = .ok (.iload_n 1, 1) := by decide +kernel
set_option maxRecDepth 20000 in
theorem dX11_of_39 : decode cX11_of 39 = .ok (.iadd, 1) := by decide +kernel
set_option maxRecDepth 20000 in
theorem dX11_of_40 : decode cX11_of 40 = .ok (.iaload, 1) := by decide +kernel
set_option maxRecDepth 20000 in
theorem dX11_of_41 : decode cX11_of 41 = .ok (.goto 44, 3) := by decide +kernel
set_option maxRecDepth 20000 in
theorem dX11_of_44 : decode cX11_of 44 = .ok (.iload_n 2, 1) := by decide +kernel
set_option maxRecDepth 20000 in
theorem dX11_of_45 : decode cX11_of 45 = .ok (.iconst 1, 1) := by decide +kernel
set_option maxRecDepth 20000 in
theorem dX11_of_46 : decode cX11_of 46 = .ok (.if_icmp .ne 15, 3) := by decide +kernel
set_option maxRecDepth 20000 in
theorem dX11_of_49 : decode cX11_of 49 = .ok (.aload_n 0, 1) := by decide +kernel
set_option maxRecDepth 20000 in
theorem dX11_of_50 : decode cX11_of 50 = .ok (.getfield 7, 3) := by decide +kernel
set_option maxRecDepth 20000 in
theorem dX11_of_53 : decode cX11_of 53 = .ok (.bipush 18, 2) := by decide +kernel
set_option maxRecDepth 20000 in
theorem dX11_of_55 : decode cX11_of 55 = .ok (.iload_n 1, 1) := by decide +kernel
set_option maxRecDepth 20000 in
theorem dX11_of_56 : decode cX11_of 56 = .ok (.iadd, 1) := by decide +kernel
set_option maxRecDepth 20000 in
theorem dX11_of_57 : decode cX11_of 57 = .ok (.iaload, 1) := by decide +kernel
set_option maxRecDepth 20000 in
theorem dX11_of_58 : decode cX11_of 58 = .ok (.goto 27, 3) := by decide +kernel
set_option maxRecDepth 20000 in
theorem dX11_of_61 : decode cX11_of 61 = .ok (.iload_n 2, 1) := by decide +kernel
set_option maxRecDepth 20000 in
theorem dX11_of_62 : decode cX11_of 62 = .ok (.iconst 2, 1) := by decide +kernel
set_option maxRecDepth 20000 in
theorem dX11_of_63 : decode cX11_of 63 = .ok (.if_icmp .ne 16, 3) := by decide +kernel
set_option maxRecDepth 20000 in
theorem dX11_of_66 : decode cX11_of 66 = .ok (.aload_n 0, 1) := by decide +kernel
set_option maxRecDepth 20000 in
theorem dX11_of_67 : decode cX11_of 67 = .ok (.getfield 7, 3) := by decide +kernel
set_option maxRecDepth 20000 in
theorem dX11_of_70 : decode cX11_of 70 = .ok (.iconst 2, 1) := by decide +kernel
set_option maxRecDepth 20000 in
theorem dX11_of_71 : decode cX11_of 71 = .ok (.iaload, 1) := by decide +kernel
set_option maxRecDepth 20000 in
theorem dX11_of_72 : decode cX11_of 72 = .ok (.iload_n 1, 1) := by decide +kernel
set_option maxRecDepth 20000 in
theorem dX11_of_73 : decode cX11_of 73 = .ok (.ishr, 1) := by decide +kernel
set_option maxRecDepth 20000 in
theorem dX11_of_74 : decode cX11_of 74 = .ok (.iconst 1, 1) := by decide +kernel
set_option maxRecDepth 20000 in
theorem dX11_of_75 : decode cX11_of 75 = .ok (.iand, 1) := by decide +kernel
set_option maxRecDepth 20000 in
theorem dX11_of_76 : decode cX11_of 76 = .ok (.goto 9, 3) := by decide +kernel
set_option maxRecDepth 20000 in
theorem dX11_of_79 : decode cX11_of 79 = .ok (.aload_n 0, 1) := by decide +kernel
set_option maxRecDepth 20000 in
theorem dX11_of_80 : decode cX11_of 80 = .ok (.getfield 33, 3) := by decide +kernel
set_option maxRecDepth 20000 in
theorem dX11_of_83 : decode cX11_of 83 = .ok (.iload_n 1, 1) := by decide +kernel
set_option maxRecDepth 20000 in
theorem dX11_of_84 : decode cX11_of 84 = .ok (.iaload, 1) := by decide +kernel
set_option maxRecDepth 20000 in
theorem dX11_of_85 : decode cX11_of 85 = .ok (.ireturn, 1) := by decide +kernel
set_option maxRecDepth 20000 in
theorem dX11_about_0 : decode cX11_about 0 = .ok (.aload_n 0, 1) := by decide +kernel
set_option maxRecDepth 20000 in
theorem dX11_about_1 : decode cX11_about 1 = .ok (.iload_n 1, 1) := by decide +kernel
set_option maxRecDepth 20000 in
theorem dX11_about_2 : decode cX11_about 2 = .ok (.invokevirtual 208, 3) := by decide +kernel
set_option maxRecDepth 20000 in
theorem dX11_about_5 : decode cX11_about 5 = .ok (.ifCond .eq 15, 3) := by decide +kernel
set_option maxRecDepth 20000 in
theorem dX11_about_8 : decode cX11_about 8 = .ok (.iload_n 2, 1) := by decide +kernel
set_option maxRecDepth 20000 in
theorem dX11_about_9 : decode cX11_about 9 = .ok (.i2l, 1) := by decide +kernel
set_option maxRecDepth 20000 in
theorem dX11_about_10 : decode cX11_about 10 = .ok (.lconst 0, 1) := by decide +kernel
set_option maxRecDepth 20000 in
theorem dX11_about_11 : decode cX11_about 11 = .ok (.ldc2_w 211, 3) := by decide +kernel
set_option maxRecDepth 20000 in
theorem dX11_about_14 : decode cX11_about 14 = .ok (.invokestatic 51, 3) := by decide +kernel
set_option maxRecDepth 20000 in
theorem dX11_about_17 : decode cX11_about 17 = .ok (.ifCond .ne 8, 3) := by decide +kernel
set_option maxRecDepth 20000 in
theorem dX11_about_20 : decode cX11_about 20 = .ok (.aload_n 0, 1) := by decide +kernel
set_option maxRecDepth 20000 in
theorem dX11_about_21 : decode cX11_about 21 = .ok (.invokevirtual 61, 3) := by decide +kernel
set_option maxRecDepth 20000 in
theorem dX11_about_24 : decode cX11_about 24 = .ok (.ireturn, 1) := by decide +kernel
set_option maxRecDepth 20000 in
theorem dX11_about_25 : decode cX11_about 25 = .ok (.iload_n 2, 1) := by decide +kernel
set_option maxRecDepth 20000 in
theorem dX11_about_26 : decode cX11_about 26 = .ok (.iconst 4, 1) := by decide +kernel
set_option maxRecDepth 20000 in
theorem dX11_about_27 : decode cX11_about 27 = .ok (.if_icmp .ge 20, 3) := by decide +kernel
set_option maxRecDepth 20000 in
theorem dX11_about_30 : decode cX11_about 30 = .ok (.aload_n 0, 1) := by decide +kernel
set_option maxRecDepth 20000 in
theorem dX11_about_31 : decode cX11_about 31 = .ok (.getfield 7, 3) := by decide +kernel
set_option maxRecDepth 20000 in
theorem dX11_about_34 : decode cX11_about 34 = .ok (.bipush 28, 2) := by decide +kernel
set_option maxRecDepth 20000 in
theorem dX11_about_36 : decode cX11_about 36 = .ok (.bipush 8, 2) := by decide +kernel
set_option maxRecDepth 20000 in
theorem dX11_about_38 : decode cX11_about 38 = .ok (.iload_n 2, 1) := by decide +kernel
set_option maxRecDepth 20000 in
theorem dX11_about_39 : decode cX11_about 39 = .ok (.imul, 1) := by decide +kernel
set_option maxRecDepth 20000 in
theorem dX11_about_40 : decode cX11_about 40 = .ok (.iadd, 1) := by decide +kernel
set_option maxRecDepth 20000 in
theorem dX11_about_41 : decode cX11_about 41 = .ok (.iload_n 1, 1) := by decide +kernel
set_option maxRecDepth 20000 in
theorem dX11_about_42 : decode cX11_about 42 = .ok (.iadd, 1) := by decide +kernel
set_option maxRecDepth 20000 in
theorem dX11_about_43 : decode cX11_about 43 = .ok (.iaload, 1) := by decide +kernel
set_option maxRecDepth 20000 in
theorem dX11_about_44 : decode cX11_about 44 = .ok (.goto 8, 3) := by decide +kernel
set_option maxRecDepth 20000 in
theorem dX11_about_47 : decode cX11_about 47 = .ok (.aload_n 0, 1) := by decide +kernel
set_option maxRecDepth 20000 in
theorem dX11_about_48 : decode cX11_about 48 = .ok (.iload_n 1, 1) := by decide +kernel
set_option maxRecDepth 20000 in
theorem dX11_about_49 : decode cX11_about 49 = .ok (.invokevirtual 171, 3) := by decide +kernel
set_option maxRecDepth 20000 in
theorem dX11_about_52 : decode cX11_about 52 = .ok (.ireturn, 1) := by decide +kernel
set_option maxRecDepth 20000 in
theorem dX11_takes_0 : decode cX11_takes 0 = .ok (.iload_n 1, 1) := by decide +kernel
set_option maxRecDepth 20000 in
theorem dX11_takes_1 : decode cX11_takes 1 = .ok (.i2l, 1) := by decide +kernel
set_option maxRecDepth 20000 in
theorem dX11_takes_2 : decode cX11_takes 2 = .ok (.lconst 0, 1) := by decide +kernel
set_option maxRecDepth 20000 in
theorem dX11_takes_3 : decode cX11_takes 3 = .ok (.lconst 1, 1) := by decide +kernel
set_option maxRecDepth 20000 in
theorem dX11_takes_4 : decode cX11_takes 4 = .ok (.invokestatic 51, 3) := by decide +kernel
set_option maxRecDepth 20000 in
theorem dX11_takes_7 : decode cX11_takes 7 = .ok (.ifCond .ne 8, 3) := by decide +kernel
set_option maxRecDepth 20000 in
theorem dX11_takes_10 : decode cX11_takes 10 = .ok (.aload_n 0, 1) := by decide +kernel
set_option maxRecDepth 20000 in
theorem dX11_takes_11 : decode cX11_takes 11 = .ok (.invokevirtual 61, 3) := by decide +kernel
set_option maxRecDepth 20000 in
theorem dX11_takes_14 : decode cX11_takes 14 = .ok (.ireturn, 1) := by decide +kernel
set_option maxRecDepth 20000 in
theorem dX11_takes_15 : decode cX11_takes 15 = .ok (.aload_n 0, 1) := by decide +kernel
set_option maxRecDepth 20000 in
theorem dX11_takes_16 : decode cX11_takes 16 = .ok (.invokevirtual 199, 3) := by decide +kernel
set_option maxRecDepth 20000 in
theorem dX11_takes_19 : decode cX11_takes 19 = .ok (.iload_n 1, 1) := by decide +kernel
set_option maxRecDepth 20000 in
theorem dX11_takes_20 : decode cX11_takes 20 = .ok (.ifCond .ne 10, 3) := by decide +kernel
set_option maxRecDepth 20000 in
theorem dX11_takes_23 : decode cX11_takes 23 = .ok (.aload_n 0, 1) := by decide +kernel
set_option maxRecDepth 20000 in
theorem dX11_takes_24 : decode cX11_takes 24 = .ok (.getfield 177, 3) := by decide +kernel
set_option maxRecDepth 20000 in
theorem dX11_takes_27 : decode cX11_takes 27 = .ok (.goto 7, 3) := by decide +kernel
set_option maxRecDepth 20000 in
theorem dX11_takes_30 : decode cX11_takes 30 = .ok (.aload_n 0, 1) := by decide +kernel
set_option maxRecDepth 20000 in
theorem dX11_takes_31 : decode cX11_takes 31 = .ok (.getfield 174, 3) := by decide +kernel
set_option maxRecDepth 20000 in
theorem dX11_takes_34 : decode cX11_takes 34 = .ok (.ireturn, 1) := by decide +kernel
set_option maxRecDepth 20000 in
theorem dX11_to_0 : decode cX11_to 0 = .ok (.aload_n 0, 1) := by decide +kernel
set_option maxRecDepth 20000 in
theorem dX11_to_1 : decode cX11_to 1 = .ok (.iload_n 1, 1) := by decide +kernel
set_option maxRecDepth 20000 in
theorem dX11_to_2 : decode cX11_to 2 = .ok (.invokevirtual 208, 3) := by decide +kernel
set_option maxRecDepth 20000 in
theorem dX11_to_5 : decode cX11_to 5 = .ok (.ifCond .eq 15, 3) := by decide +kernel
set_option maxRecDepth 20000 in
theorem dX11_to_8 : decode cX11_to 8 = .ok (.iload_n 2, 1) := by decide +kernel
set_option maxRecDepth 20000 in
theorem dX11_to_9 : decode cX11_to 9 = .ok (.i2l, 1) := by decide +kernel
set_option maxRecDepth 20000 in
theorem dX11_to_10 : decode cX11_to 10 = .ok (.lconst 0, 1) := by decide +kernel
set_option maxRecDepth 20000 in
theorem dX11_to_11 : decode cX11_to 11 = .ok (.ldc2_w 79, 3) := by decide +kernel
set_option maxRecDepth 20000 in
theorem dX11_to_14 : decode cX11_to 14 = .ok (.invokestatic 51, 3) := by decide +kernel
set_option maxRecDepth 20000 in
theorem dX11_to_17 : decode cX11_to 17 = .ok (.ifCond .ne 8, 3) := by decide +kernel
set_option maxRecDepth 20000 in
theorem dX11_to_20 : decode cX11_to 20 = .ok (.aload_n 0, 1) := by decide +kernel
set_option maxRecDepth 20000 in
theorem dX11_to_21 : decode cX11_to 21 = .ok (.invokevirtual 61, 3) := by decide +kernel
set_option maxRecDepth 20000 in
theorem dX11_to_24 : decode cX11_to 24 = .ok (.ireturn, 1) := by decide +kernel
set_option maxRecDepth 20000 in
theorem dX11_to_25 : decode cX11_to 25 = .ok (.aload_n 0, 1) := by decide +kernel
set_option maxRecDepth 20000 in
theorem dX11_to_26 : decode cX11_to 26 = .ok (.invokevirtual 199, 3) := by decide +kernel
set_option maxRecDepth 20000 in
theorem dX11_to_29 : decode cX11_to 29 = .ok (.iload_n 2, 1) := by decide +kernel
set_option maxRecDepth 20000 in
theorem dX11_to_30 : decode cX11_to 30 = .ok (.ifCond .ne 11, 3) := by decide +kernel
set_option maxRecDepth 20000 in
theorem dX11_to_33 : decode cX11_to 33 = .ok (.aload_n 0, 1) := by decide +kernel
set_option maxRecDepth 20000 in
theorem dX11_to_34 : decode cX11_to 34 = .ok (.iload_n 1, 1) := by decide +kernel
set_option maxRecDepth 20000 in
theorem dX11_to_35 : decode cX11_to 35 = .ok (.invokevirtual 156, 3) := by decide +kernel
set_option maxRecDepth 20000 in
theorem dX11_to_38 : decode cX11_to 38 = .ok (.goto 44, 3) := by decide +kernel
set_option maxRecDepth 20000 in
theorem dX11_to_41 : decode cX11_to 41 = .ok (.iload_n 2, 1) := by decide +kernel
set_option maxRecDepth 20000 in
theorem dX11_to_42 : decode cX11_to 42 = .ok (.iconst 1, 1) := by decide +kernel
set_option maxRecDepth 20000 in
theorem dX11_to_43 : decode cX11_to 43 = .ok (.if_icmp .ne 11, 3) := by decide +kernel
set_option maxRecDepth 20000 in
theorem dX11_to_46 : decode cX11_to 46 = .ok (.aload_n 0, 1) := by decide +kernel
set_option maxRecDepth 20000 in
theorem dX11_to_47 : decode cX11_to 47 = .ok (.iload_n 1, 1) := by decide +kernel
set_option maxRecDepth 20000 in
theorem dX11_to_48 : decode cX11_to 48 = .ok (.invokevirtual 165, 3) := by decide +kernel
set_option maxRecDepth 20000 in
theorem dX11_to_51 : decode cX11_to 51 = .ok (.goto 31, 3) := by decide +kernel
set_option maxRecDepth 20000 in
theorem dX11_to_54 : decode cX11_to 54 = .ok (.iload_n 2, 1) := by decide +kernel
set_option maxRecDepth 20000 in
theorem dX11_to_55 : decode cX11_to 55 = .ok (.iconst 2, 1) := by decide +kernel
set_option maxRecDepth 20000 in
theorem dX11_to_56 : decode cX11_to 56 = .ok (.if_icmp .ne 12, 3) := by decide +kernel
set_option maxRecDepth 20000 in
theorem dX11_to_59 : decode cX11_to 59 = .ok (.aload_n 0, 1) := by decide +kernel
set_option maxRecDepth 20000 in
theorem dX11_to_60 : decode cX11_to 60 = .ok (.getfield 27, 3) := by decide +kernel
set_option maxRecDepth 20000 in
theorem dX11_to_63 : decode cX11_to 63 = .ok (.iload_n 1, 1) := by decide +kernel
set_option maxRecDepth 20000 in
theorem dX11_to_64 : decode cX11_to 64 = .ok (.iaload, 1) := by decide +kernel
set_option maxRecDepth 20000 in
theorem dX11_to_65 : decode cX11_to 65 = .ok (.goto 17, 3) := by decide +kernel
set_option maxRecDepth 20000 in
theorem dX11_to_68 : decode cX11_to 68 = .ok (.aload_n 0, 1) := by decide +kernel
set_option maxRecDepth 20000 in
theorem dX11_to_69 : decode cX11_to 69 = .ok (.getfield 30, 3) := by decide +kernel
set_option maxRecDepth 20000 in
theorem dX11_to_72 : decode cX11_to 72 = .ok (.iload_n 1, 1) := by decide +kernel
set_option maxRecDepth 20000 in
theorem dX11_to_73 : decode cX11_to 73 = .ok (.baload, 1) := by decide +kernel
set_option maxRecDepth 20000 in
theorem dX11_to_74 : decode cX11_to 74 = .ok (.ifCond .eq 7, 3) := by decide +kernel
set_option maxRecDepth 20000 in
theorem dX11_to_77 : decode cX11_to 77 = .ok (.iconst 1, 1) := by decide +kernel
set_option maxRecDepth 20000 in
theorem dX11_to_78 : decode cX11_to 78 = .ok (.goto 4, 3) := by decide +kernel
set_option maxRecDepth 20000 in
theorem dX11_to_81 : decode cX11_to 81 = .ok (.iconst 0, 1) := by decide +kernel
set_option maxRecDepth 20000 in
theorem dX11_to_82 : decode cX11_to 82 = .ok (.ireturn, 1) := by decide +kernel
set_option maxRecDepth 20000 in
theorem dX11_lays_0 : decode cX11_lays 0 = .ok (.aload_n 0, 1) := by decide +kernel
set_option maxRecDepth 20000 in
theorem dX11_lays_1 : decode cX11_lays 1 = .ok (.iconst (-1), 1) := by decide +kernel
set_option maxRecDepth 20000 in
theorem dX11_lays_2 : decode cX11_lays 2 = .ok (.putfield 162, 3) := by decide +kernel
set_option maxRecDepth 20000 in
theorem dX11_lays_5 : decode cX11_lays 5 = .ok (.iconst 0, 1) := by decide +kernel
set_option maxRecDepth 20000 in
theorem dX11_lays_6 : decode cX11_lays 6 = .ok (.istore_n 1, 1) := by decide +kernel
set_option maxRecDepth 20000 in
theorem dX11_lays_7 : decode cX11_lays 7 = .ok (.iload_n 1, 1) := by decide +kernel
set_option maxRecDepth 20000 in
theorem dX11_lays_8 : decode cX11_lays 8 = .ok (.bipush 20, 2) := by decide +kernel
set_option maxRecDepth 20000 in
theorem dX11_lays_10 : decode cX11_lays 10 = .ok (.if_icmp .ge 24, 3) := by decide +kernel
set_option maxRecDepth 20000 in
theorem dX11_lays_13 : decode cX11_lays 13 = .ok (.aload_n 0, 1) := by decide +kernel
set_option maxRecDepth 20000 in
theorem dX11_lays_14 : decode cX11_lays 14 = .ok (.getfield 36, 3) := by decide +kernel
set_option maxRecDepth 20000 in
theorem dX11_lays_17 : decode cX11_lays 17 = .ok (.iload_n 1, 1) := by decide +kernel
set_option maxRecDepth 20000 in
theorem dX11_lays_18 : decode cX11_lays 18 = .ok (.aload_n 0, 1) := by decide +kernel
set_option maxRecDepth 20000 in
theorem dX11_lays_19 : decode cX11_lays 19 = .ok (.getfield 7, 3) := by decide +kernel
set_option maxRecDepth 20000 in
theorem dX11_lays_22 : decode cX11_lays 22 = .ok (.bipush 8, 2) := by decide +kernel
set_option maxRecDepth 20000 in
theorem dX11_lays_24 : decode cX11_lays 24 = .ok (.iload_n 1, 1) := by decide +kernel
set_option maxRecDepth 20000 in
theorem dX11_lays_25 : decode cX11_lays 25 = .ok (.iadd, 1) := by decide +kernel
set_option maxRecDepth 20000 in
theorem dX11_lays_26 : decode cX11_lays 26 = .ok (.iaload, 1) := by decide +kernel
set_option maxRecDepth 20000 in
theorem dX11_lays_27 : decode cX11_lays 27 = .ok (.iastore, 1) := by decide +kernel
set_option maxRecDepth 20000 in
theorem dX11_lays_28 : decode cX11_lays 28 = .ok (.iinc 1 1, 3) := by decide +kernel
set_option maxRecDepth 20000 in
theorem dX11_lays_31 : decode cX11_lays 31 = .ok (.goto (-24), 3) := by decide +kernel
set_option maxRecDepth 20000 in
theorem dX11_lays_34 : decode cX11_lays 34 = .ok (.return_, 1) := by decide +kernel
set_option maxRecDepth 20000 in
theorem dX11_putsBack_0 : decode cX11_putsBack 0 = .ok (.iconst 0, 1) := by decide +kernel
set_option maxRecDepth 20000 in
theorem dX11_putsBack_1 : decode cX11_putsBack 1 = .ok (.istore_n 1, 1) := by decide +kernel
set_option maxRecDepth 20000 in
theorem dX11_putsBack_2 : decode cX11_putsBack 2 = .ok (.iload_n 1, 1) := by decide +kernel
set_option maxRecDepth 20000 in
theorem dX11_putsBack_3 : decode cX11_putsBack 3 = .ok (.bipush 20, 2) := by decide +kernel
set_option maxRecDepth 20000 in
theorem dX11_putsBack_5 : decode cX11_putsBack 5 = .ok (.if_icmp .ge 24, 3) := by decide +kernel
set_option maxRecDepth 20000 in
theorem dX11_putsBack_8 : decode cX11_putsBack 8 = .ok (.aload_n 0, 1) := by decide +kernel
set_option maxRecDepth 20000 in
theorem dX11_putsBack_9 : decode cX11_putsBack 9 = .ok (.getfield 7, 3) := by decide +kernel
set_option maxRecDepth 20000 in
theorem dX11_putsBack_12 : decode cX11_putsBack 12 = .ok (.bipush 8, 2) := by decide +kernel
set_option maxRecDepth 20000 in
theorem dX11_putsBack_14 : decode cX11_putsBack 14 = .ok (.iload_n 1, 1) := by decide +kernel
set_option maxRecDepth 20000 in
theorem dX11_putsBack_15 : decode cX11_putsBack 15 = .ok (.iadd, 1) := by decide +kernel
set_option maxRecDepth 20000 in
theorem dX11_putsBack_16 : decode cX11_putsBack 16 = .ok (.aload_n 0, 1) := by decide +kernel
set_option maxRecDepth 20000 in
theorem dX11_putsBack_17 : decode cX11_putsBack 17 = .ok (.getfield 36, 3) := by decide +kernel
set_option maxRecDepth 20000 in
theorem dX11_putsBack_20 : decode cX11_putsBack 20 = .ok (.iload_n 1, 1) := by decide +kernel
set_option maxRecDepth 20000 in
theorem dX11_putsBack_21 : decode cX11_putsBack 21 = .ok (.iaload, 1) := by decide +kernel
set_option maxRecDepth 20000 in
theorem dX11_putsBack_22 : decode cX11_putsBack 22 = .ok (.iastore, 1) := by decide +kernel
set_option maxRecDepth 20000 in
theorem dX11_putsBack_23 : decode cX11_putsBack 23 = .ok (.iinc 1 1, 3) := by decide +kernel
set_option maxRecDepth 20000 in
theorem dX11_putsBack_26 : decode cX11_putsBack 26 = .ok (.goto (-24), 3) := by decide +kernel
set_option maxRecDepth 20000 in
theorem dX11_putsBack_29 : decode cX11_putsBack 29 = .ok (.return_, 1) := by decide +kernel
set_option maxRecDepth 20000 in
theorem dX11_best_0 : decode cX11_best 0 = .ok (.iload_n 1, 1) := by decide +kernel
set_option maxRecDepth 20000 in
theorem dX11_best_1 : decode cX11_best 1 = .ok (.invokestatic 57, 3) := by decide +kernel
set_option maxRecDepth 20000 in
theorem dX11_best_4 : decode cX11_best 4 = .ok (.ifCond .eq 38, 3) := by decide +kernel
set_option maxRecDepth 20000 in
theorem dX11_best_7 : decode cX11_best 7 = .ok (.iload_n 2, 1) := by decide +kernel
set_option maxRecDepth 20000 in
theorem dX11_best_8 : decode cX11_best 8 = .ok (.invokestatic 57, 3) := by decide +kernel
set_option maxRecDepth 20000 in
theorem dX11_best_11 : decode cX11_best 11 = .ok (.ifCond .eq 31, 3) := by decide +kernel
set_option maxRecDepth 20000 in
theorem dX11_best_14 : decode cX11_best 14 = .ok (.iload_n 3, 1) := by decide +kernel
set_option maxRecDepth 20000 in
theorem dX11_best_15 : decode cX11_best 15 = .ok (.invokestatic 57, 3) := by decide +kernel
set_option maxRecDepth 20000 in
theorem dX11_best_18 : decode cX11_best 18 = .ok (.ifCond .eq 24, 3) := by decide +kernel
set_option maxRecDepth 20000 in
theorem dX11_best_21 : decode cX11_best 21 = .ok (.iload_n 1, 1) := by decide +kernel
set_option maxRecDepth 20000 in
theorem dX11_best_22 : decode cX11_best 22 = .ok (.iload_n 2, 1) := by decide +kernel
set_option maxRecDepth 20000 in
theorem dX11_best_23 : decode cX11_best 23 = .ok (.if_icmp .lt 19, 3) := by decide +kernel
set_option maxRecDepth 20000 in
theorem dX11_best_26 : decode cX11_best 26 = .ok (.iload_n 2, 1) := by decide +kernel
set_option maxRecDepth 20000 in
theorem dX11_best_27 : decode cX11_best 27 = .ok (.iload_n 3, 1) := by decide +kernel
set_option maxRecDepth 20000 in
theorem dX11_best_28 : decode cX11_best 28 = .ok (.if_icmp .lt 14, 3) := by decide +kernel
set_option maxRecDepth 20000 in
theorem dX11_best_31 : decode cX11_best 31 = .ok (.iload 4, 2) := by decide +kernel
set_option maxRecDepth 20000 in
theorem dX11_best_33 : decode cX11_best 33 = .ok (.i2l, 1) := by decide +kernel
set_option maxRecDepth 20000 in
theorem dX11_best_34 : decode cX11_best 34 = .ok (.lconst 0, 1) := by decide +kernel
set_option maxRecDepth 20000 in
theorem dX11_best_35 : decode cX11_best 35 = .ok (.lconst 1, 1) := by decide +kernel
set_option maxRecDepth 20000 in
theorem dX11_best_36 : decode cX11_best 36 = .ok (.invokestatic 51, 3) := by decide +kernel
set_option maxRecDepth 20000 in
theorem dX11_best_39 : decode cX11_best 39 = .ok (.ifCond .ne 8, 3) := by decide +kernel
set_option maxRecDepth 20000 in
theorem dX11_best_42 : decode cX11_best 42 = .ok (.aload_n 0, 1) := by decide +kernel
set_option maxRecDepth 20000 in
theorem dX11_best_43 : decode cX11_best 43 = .ok (.invokevirtual 61, 3) := by decide +kernel
set_option maxRecDepth 20000 in
theorem dX11_best_46 : decode cX11_best 46 = .ok (.ireturn, 1) := by decide +kernel
set_option maxRecDepth 20000 in
theorem dX11_best_47 : decode cX11_best 47 = .ok (.aload_n 0, 1) := by decide +kernel
set_option maxRecDepth 20000 in
theorem dX11_best_48 : decode cX11_best 48 = .ok (.invokevirtual 213, 3) := by decide +kernel
set_option maxRecDepth 20000 in
theorem dX11_best_51 : decode cX11_best 51 = .ok (.iconst (-1), 1) := by decide +kernel
set_option maxRecDepth 20000 in
theorem dX11_best_52 : decode cX11_best 52 = .ok (.istore 5, 2) := by decide +kernel
set_option maxRecDepth 20000 in
theorem dX11_best_54 : decode cX11_best 54 = .ok (.iconst 0, 1) := by decide +kernel
set_option maxRecDepth 20000 in
theorem dX11_best_55 : decode cX11_best 55 = .ok (.istore 6, 2) := by decide +kernel
set_option maxRecDepth 20000 in
theorem dX11_best_57 : decode cX11_best 57 = .ok (.iconst 0, 1) := by decide +kernel
set_option maxRecDepth 20000 in
theorem dX11_best_58 : decode cX11_best 58 = .ok (.istore 7, 2) := by decide +kernel
set_option maxRecDepth 20000 in
theorem dX11_best_60 : decode cX11_best 60 = .ok (.iload 7, 2) := by decide +kernel
set_option maxRecDepth 20000 in
theorem dX11_best_62 : decode cX11_best 62 = .ok (.bipush 10, 2) := by decide +kernel
set_option maxRecDepth 20000 in
theorem dX11_best_64 : decode cX11_best 64 = .ok (.if_icmp .gt 126, 3) := by decide +kernel
set_option maxRecDepth 20000 in
theorem dX11_best_67 : decode cX11_best 67 = .ok (.iload 7, 2) := by decide +kernel
set_option maxRecDepth 20000 in
theorem dX11_best_69 : decode cX11_best 69 = .ok (.istore 8, 2) := by decide +kernel
set_option maxRecDepth 20000 in
theorem dX11_best_71 : decode cX11_best 71 = .ok (.iload 8, 2) := by decide +kernel
set_option maxRecDepth 20000 in
theorem dX11_best_73 : decode cX11_best 73 = .ok (.bipush 10, 2) := by decide +kernel
set_option maxRecDepth 20000 in
theorem dX11_best_75 : decode cX11_best 75 = .ok (.if_icmp .gt 109, 3) := by decide +kernel
set_option maxRecDepth 20000 in
theorem dX11_best_78 : decode cX11_best 78 = .ok (.iconst 0, 1) := by decide +kernel
set_option maxRecDepth 20000 in
theorem dX11_best_79 : decode cX11_best 79 = .ok (.istore 9, 2) := by decide +kernel
set_option maxRecDepth 20000 in
theorem dX11_best_81 : decode cX11_best 81 = .ok (.iload 9, 2) := by decide +kernel
set_option maxRecDepth 20000 in
theorem dX11_best_83 : decode cX11_best 83 = .ok (.bipush 10, 2) := by decide +kernel
set_option maxRecDepth 20000 in
theorem dX11_best_85 : decode cX11_best 85 = .ok (.if_icmp .ge 42, 3) := by decide +kernel
set_option maxRecDepth 20000 in
theorem dX11_best_88 : decode cX11_best 88 = .ok (.aload_n 0, 1) := by decide +kernel
set_option maxRecDepth 20000 in
theorem dX11_best_89 : decode cX11_best 89 = .ok (.getfield 7, 3) := by decide +kernel
set_option maxRecDepth 20000 in
theorem dX11_best_92 : decode cX11_best 92 = .ok (.bipush 8, 2) := by decide +kernel
set_option maxRecDepth 20000 in
theorem dX11_best_94 : decode cX11_best 94 = .ok (.iload 9, 2) := by decide +kernel
set_option maxRecDepth 20000 in
theorem dX11_best_96 : decode cX11_best 96 = .ok (.iadd, 1) := by decide +kernel
set_option maxRecDepth 20000 in
theorem dX11_best_97 : decode cX11_best 97 = .ok (.iload 9, 2) := by decide +kernel
set_option maxRecDepth 20000 in
theorem dX11_best_99 : decode cX11_best 99 = .ok (.iload 7, 2) := by decide +kernel
set_option maxRecDepth 20000 in
theorem dX11_best_101 : decode cX11_best 101 = .ok (.if_icmp .ge 7, 3) := by decide +kernel
set_option maxRecDepth 20000 in
theorem dX11_best_104 : decode cX11_best 104 = .ok (.iload_n 1, 1) := by decide +kernel
set_option maxRecDepth 20000 in
theorem dX11_best_105 : decode cX11_best 105 = .ok (.goto 15, 3) := by decide +kernel
set_option maxRecDepth 20000 in
theorem dX11_best_108 : decode cX11_best 108 = .ok (.iload 9, 2) := by decide +kernel
set_option maxRecDepth 20000 in
theorem dX11_best_110 : decode cX11_best 110 = .ok (.iload 8, 2) := by decide +kernel
set_option maxRecDepth 20000 in
theorem dX11_best_112 : decode cX11_best 112 = .ok (.if_icmp .ge 7, 3) := by decide +kernel
set_option maxRecDepth 20000 in
theorem dX11_best_115 : decode cX11_best 115 = .ok (.iload_n 2, 1) := by decide +kernel
set_option maxRecDepth 20000 in
theorem dX11_best_116 : decode cX11_best 116 = .ok (.goto 4, 3) := by decide +kernel
set_option maxRecDepth 20000 in
theorem dX11_best_119 : decode cX11_best 119 = .ok (.iload_n 3, 1) := by decide +kernel
set_option maxRecDepth 20000 in
theorem dX11_best_120 : decode cX11_best 120 = .ok (.iastore, 1) := by decide +kernel
set_option maxRecDepth 20000 in
theorem dX11_best_121 : decode cX11_best 121 = .ok (.iinc 9 1, 3) := by decide +kernel
set_option maxRecDepth 20000 in
theorem dX11_best_124 : decode cX11_best 124 = .ok (.goto (-43), 3) := by decide +kernel
set_option maxRecDepth 20000 in
theorem dX11_best_127 : decode cX11_best 127 = .ok (.aload_n 0, 1) := by decide +kernel
set_option maxRecDepth 20000 in
theorem dX11_best_128 : decode cX11_best 128 = .ok (.sipush 255, 3) := by decide +kernel
set_option maxRecDepth 20000 in
theorem dX11_best_131 : decode cX11_best 131 = .ok (.invokevirtual 189, 3) := by decide +kernel
set_option maxRecDepth 20000 in
theorem dX11_best_134 : decode cX11_best 134 = .ok (.aload_n 0, 1) := by decide +kernel
set_option maxRecDepth 20000 in
theorem dX11_best_135 : decode cX11_best 135 = .ok (.getfield 177, 3) := by decide +kernel
set_option maxRecDepth 20000 in
theorem dX11_best_138 : decode cX11_best 138 = .ok (.iload 5, 2) := by decide +kernel
set_option maxRecDepth 20000 in
theorem dX11_best_140 : decode cX11_best 140 = .ok (.if_icmp .le 14, 3) := by decide +kernel
set_option maxRecDepth 20000 in
theorem dX11_best_143 : decode cX11_best 143 = .ok (.bipush 11, 2) := by decide +kernel
set_option maxRecDepth 20000 in
theorem dX11_best_145 : decode cX11_best 145 = .ok (.iload 7, 2) := by decide +kernel
set_option maxRecDepth 20000 in
theorem dX11_best_147 : decode cX11_best 147 = .ok (.imul, 1) := by decide +kernel
set_option maxRecDepth 20000 in
theorem dX11_best_148 : decode cX11_best 148 = .ok (.iload 8, 2) := by decide +kernel
set_option maxRecDepth 20000 in
theorem dX11_best_150 : decode cX11_best 150 = .ok (.iadd, 1) := by decide +kernel
set_option maxRecDepth 20000 in
theorem dX11_best_151 : decode cX11_best 151 = .ok (.goto 5, 3) := by decide +kernel
set_option maxRecDepth 20000 in
theorem dX11_best_154 : decode cX11_best 154 = .ok (.iload 6, 2) := by decide +kernel
set_option maxRecDepth 20000 in
theorem dX11_best_156 : decode cX11_best 156 = .ok (.istore 6, 2) := by decide +kernel
set_option maxRecDepth 20000 in
theorem dX11_best_158 : decode cX11_best 158 = .ok (.aload_n 0, 1) := by decide +kernel
set_option maxRecDepth 20000 in
theorem dX11_best_159 : decode cX11_best 159 = .ok (.getfield 177, 3) := by decide +kernel
set_option maxRecDepth 20000 in
theorem dX11_best_162 : decode cX11_best 162 = .ok (.iload 5, 2) := by decide +kernel
set_option maxRecDepth 20000 in
theorem dX11_best_164 : decode cX11_best 164 = .ok (.if_icmp .le 10, 3) := by decide +kernel
set_option maxRecDepth 20000 in
theorem dX11_best_167 : decode cX11_best 167 = .ok (.aload_n 0, 1) := by decide +kernel
set_option maxRecDepth 20000 in
theorem dX11_best_168 : decode cX11_best 168 = .ok (.getfield 177, 3) := by decide +kernel
set_option maxRecDepth 20000 in
theorem dX11_best_171 : decode cX11_best 171 = .ok (.goto 5, 3) := by decide +kernel
set_option maxRecDepth 20000 in
theorem dX11_best_174 : decode cX11_best 174 = .ok (.iload 5, 2) := by decide +kernel
set_option maxRecDepth 20000 in
theorem dX11_best_176 : decode cX11_best 176 = .ok (.istore 5, 2) := by decide +kernel
set_option maxRecDepth 20000 in
theorem dX11_best_178 : decode cX11_best 178 = .ok (.iinc 8 1, 3) := by decide +kernel
set_option maxRecDepth 20000 in
theorem dX11_best_181 : decode cX11_best 181 = .ok (.goto (-110), 3) := by decide +kernel
set_option maxRecDepth 20000 in
theorem dX11_best_184 : decode cX11_best 184 = .ok (.iinc 7 1, 3) := by decide +kernel
set_option maxRecDepth 20000 in
theorem dX11_best_187 : decode cX11_best 187 = .ok (.goto (-127), 3) := by decide +kernel
set_option maxRecDepth 20000 in
theorem dX11_best_190 : decode cX11_best 190 = .ok (.aload_n 0, 1) := by decide +kernel
set_option maxRecDepth 20000 in
theorem dX11_best_191 : decode cX11_best 191 = .ok (.invokevirtual 216, 3) := by decide +kernel
set_option maxRecDepth 20000 in
theorem dX11_best_194 : decode cX11_best 194 = .ok (.iload 4, 2) := by decide +kernel
set_option maxRecDepth 20000 in
theorem dX11_best_196 : decode cX11_best 196 = .ok (.ifCond .ne 8, 3) := by decide +kernel
set_option maxRecDepth 20000 in
theorem dX11_best_199 : decode cX11_best 199 = .ok (.iload 5, 2) := by decide +kernel
set_option maxRecDepth 20000 in
theorem dX11_best_201 : decode cX11_best 201 = .ok (.goto 5, 3) := by decide +kernel
set_option maxRecDepth 20000 in
theorem dX11_best_204 : decode cX11_best 204 = .ok (.iload 6, 2) := by decide +kernel
set_option maxRecDepth 20000 in
theorem dX11_best_206 : decode cX11_best 206 = .ok (.ireturn, 1) := by decide +kernel
set_option maxRecDepth 20000 in
theorem dX11_brings_0 : decode cX11_brings 0 = .ok (.iload_n 1, 1) := by decide +kernel
set_option maxRecDepth 20000 in
theorem dX11_brings_1 : decode cX11_brings 1 = .ok (.invokestatic 57, 3) := by decide +kernel
set_option maxRecDepth 20000 in
theorem dX11_brings_4 : decode cX11_brings 4 = .ok (.ifCond .ne 8, 3) := by decide +kernel
set_option maxRecDepth 20000 in
theorem dX11_brings_7 : decode cX11_brings 7 = .ok (.aload_n 0, 1) := by decide +kernel
set_option maxRecDepth 20000 in
theorem dX11_brings_8 : decode cX11_brings 8 = .ok (.invokevirtual 61, 3) := by decide +kernel
set_option maxRecDepth 20000 in
theorem dX11_brings_11 : decode cX11_brings 11 = .ok (.ireturn, 1) := by decide +kernel
set_option maxRecDepth 20000 in
theorem dX11_brings_12 : decode cX11_brings 12 = .ok (.aload_n 0, 1) := by decide +kernel
set_option maxRecDepth 20000 in
theorem dX11_brings_13 : decode cX11_brings 13 = .ok (.getfield 7, 3) := by decide +kernel
set_option maxRecDepth 20000 in
theorem dX11_brings_16 : decode cX11_brings 16 = .ok (.iconst 0, 1) := by decide +kernel
set_option maxRecDepth 20000 in
theorem dX11_brings_17 : decode cX11_brings 17 = .ok (.iaload, 1) := by decide +kernel
set_option maxRecDepth 20000 in
theorem dX11_brings_18 : decode cX11_brings 18 = .ok (.istore_n 2, 1) := by decide +kernel
set_option maxRecDepth 20000 in
theorem dX11_brings_19 : decode cX11_brings 19 = .ok (.iconst 0, 1) := by decide +kernel
set_option maxRecDepth 20000 in
theorem dX11_brings_20 : decode cX11_brings 20 = .ok (.istore_n 3, 1) := by decide +kernel
set_option maxRecDepth 20000 in
theorem dX11_brings_21 : decode cX11_brings 21 = .ok (.ldc 219, 2) := by decide +kernel
set_option maxRecDepth 20000 in
theorem dX11_brings_23 : decode cX11_brings 23 = .ok (.istore 4, 2) := by decide +kernel
set_option maxRecDepth 20000 in
theorem dX11_brings_25 : decode cX11_brings 25 = .ok (.aload_n 0, 1) := by decide +kernel
set_option maxRecDepth 20000 in
theorem dX11_brings_26 : decode cX11_brings 26 = .ok (.iconst (-1), 1) := by decide +kernel
set_option maxRecDepth 20000 in
theorem dX11_brings_27 : decode cX11_brings 27 = .ok (.putfield 162, 3) := by decide +kernel
set_option maxRecDepth 20000 in
theorem dX11_brings_30 : decode cX11_brings 30 = .ok (.iconst 0, 1) := by decide +kernel
set_option maxRecDepth 20000 in
theorem dX11_brings_31 : decode cX11_brings 31 = .ok (.istore 5, 2) := by decide +kernel
set_option maxRecDepth 20000 in
theorem dX11_brings_33 : decode cX11_brings 33 = .ok (.iload 5, 2) := by decide +kernel
set_option maxRecDepth 20000 in
theorem dX11_brings_35 : decode cX11_brings 35 = .ok (.bipush 60, 2) := by decide +kernel
set_option maxRecDepth 20000 in
theorem dX11_brings_37 : decode cX11_brings 37 = .ok (.if_icmp .gt 65, 3) := by decide +kernel
set_option maxRecDepth 20000 in
theorem dX11_brings_40 : decode cX11_brings 40 = .ok (.aload_n 0, 1) := by decide +kernel
set_option maxRecDepth 20000 in
theorem dX11_brings_41 : decode cX11_brings 41 = .ok (.getfield 7, 3) := by decide +kernel
set_option maxRecDepth 20000 in
theorem dX11_brings_44 : decode cX11_brings 44 = .ok (.iconst 0, 1) := by decide +kernel
set_option maxRecDepth 20000 in
theorem dX11_brings_45 : decode cX11_brings 45 = .ok (.iload 5, 2) := by decide +kernel
set_option maxRecDepth 20000 in
theorem dX11_brings_47 : decode cX11_brings 47 = .ok (.iastore, 1) := by decide +kernel
set_option maxRecDepth 20000 in
theorem dX11_brings_48 : decode cX11_brings 48 = .ok (.aload_n 0, 1) := by decide +kernel
set_option maxRecDepth 20000 in
theorem dX11_brings_49 : decode cX11_brings 49 = .ok (.sipush 255, 3) := by decide +kernel
set_option maxRecDepth 20000 in
theorem dX11_brings_52 : decode cX11_brings 52 = .ok (.invokevirtual 189, 3) := by decide +kernel
set_option maxRecDepth 20000 in
theorem dX11_brings_55 : decode cX11_brings 55 = .ok (.aload_n 0, 1) := by decide +kernel
set_option maxRecDepth 20000 in
theorem dX11_brings_56 : decode cX11_brings 56 = .ok (.getfield 177, 3) := by decide +kernel
set_option maxRecDepth 20000 in
theorem dX11_brings_59 : decode cX11_brings 59 = .ok (.iload_n 1, 1) := by decide +kernel
set_option maxRecDepth 20000 in
theorem dX11_brings_60 : decode cX11_brings 60 = .ok (.iload 5, 2) := by decide +kernel
set_option maxRecDepth 20000 in
theorem dX11_brings_62 : decode cX11_brings 62 = .ok (.imul, 1) := by decide +kernel
set_option maxRecDepth 20000 in
theorem dX11_brings_63 : decode cX11_brings 63 = .ok (.isub, 1) := by decide +kernel
set_option maxRecDepth 20000 in
theorem dX11_brings_64 : decode cX11_brings 64 = .ok (.istore 6, 2) := by decide +kernel
set_option maxRecDepth 20000 in
theorem dX11_brings_66 : decode cX11_brings 66 = .ok (.iload 6, 2) := by decide +kernel
set_option maxRecDepth 20000 in
theorem dX11_brings_68 : decode cX11_brings 68 = .ok (.iload 4, 2) := by decide +kernel
set_option maxRecDepth 20000 in
theorem dX11_brings_70 : decode cX11_brings 70 = .ok (.if_icmp .le 8, 3) := by decide +kernel
set_option maxRecDepth 20000 in
theorem dX11_brings_73 : decode cX11_brings 73 = .ok (.iload 5, 2) := by decide +kernel
set_option maxRecDepth 20000 in
theorem dX11_brings_75 : decode cX11_brings 75 = .ok (.goto 4, 3) := by decide +kernel
set_option maxRecDepth 20000 in
theorem dX11_brings_78 : decode cX11_brings 78 = .ok (.iload_n 3, 1) := by decide +kernel
set_option maxRecDepth 20000 in
theorem dX11_brings_79 : decode cX11_brings 79 = .ok (.istore_n 3, 1) := by decide +kernel
set_option maxRecDepth 20000 in
theorem dX11_brings_80 : decode cX11_brings 80 = .ok (.iload 6, 2) := by decide +kernel
set_option maxRecDepth 20000 in
theorem dX11_brings_82 : decode cX11_brings 82 = .ok (.iload 4, 2) := by decide +kernel
set_option maxRecDepth 20000 in
theorem dX11_brings_84 : decode cX11_brings 84 = .ok (.if_icmp .le 8, 3) := by decide +kernel
set_option maxRecDepth 20000 in
theorem dX11_brings_87 : decode cX11_brings 87 = .ok (.iload 6, 2) := by decide +kernel
set_option maxRecDepth 20000 in
theorem dX11_brings_89 : decode cX11_brings 89 = .ok (.goto 5, 3) := by decide +kernel
set_option maxRecDepth 20000 in
theorem dX11_brings_92 : decode cX11_brings 92 = .ok (.iload 4, 2) := by decide +kernel
set_option maxRecDepth 20000 in
theorem dX11_brings_94 : decode cX11_brings 94 = .ok (.istore 4, 2) := by decide +kernel
set_option maxRecDepth 20000 in
theorem dX11_brings_96 : decode cX11_brings 96 = .ok (.iinc 5 1, 3) := by decide +kernel
set_option maxRecDepth 20000 in
theorem dX11_brings_99 : decode cX11_brings 99 = .ok (.goto (-66), 3) := by decide +kernel
set_option maxRecDepth 20000 in
theorem dX11_brings_102 : decode cX11_brings 102 = .ok (.aload_n 0, 1) := by decide +kernel
set_option maxRecDepth 20000 in
theorem dX11_brings_103 : decode cX11_brings 103 = .ok (.getfield 7, 3) := by decide +kernel
set_option maxRecDepth 20000 in
theorem dX11_brings_106 : decode cX11_brings 106 = .ok (.iconst 0, 1) := by decide +kernel
set_option maxRecDepth 20000 in
theorem dX11_brings_107 : decode cX11_brings 107 = .ok (.iload_n 2, 1) := by decide +kernel
set_option maxRecDepth 20000 in
theorem dX11_brings_108 : decode cX11_brings 108 = .ok (.iastore, 1) := by decide +kernel
set_option maxRecDepth 20000 in
theorem dX11_brings_109 : decode cX11_brings 109 = .ok (.iload_n 3, 1) := by decide +kernel
set_option maxRecDepth 20000 in
theorem dX11_brings_110 : decode cX11_brings 110 = .ok (.ireturn, 1) := by decide +kernel
set_option maxRecDepth 20000 in
theorem dX11_come_0 : decode cX11_come 0 = .ok (.aload_n 0, 1) := by decide +kernel
set_option maxRecDepth 20000 in
theorem dX11_come_1 : decode cX11_come 1 = .ok (.iload_n 1, 1) := by decide +kernel
set_option maxRecDepth 20000 in
theorem dX11_come_2 : decode cX11_come 2 = .ok (.invokevirtual 208, 3) := by decide +kernel
set_option maxRecDepth 20000 in
theorem dX11_come_5 : decode cX11_come 5 = .ok (.ifCond .ne 8, 3) := by decide +kernel
set_option maxRecDepth 20000 in
theorem dX11_come_8 : decode cX11_come 8 = .ok (.aload_n 0, 1) := by decide +kernel
set_option maxRecDepth 20000 in
theorem dX11_come_9 : decode cX11_come 9 = .ok (.invokevirtual 61, 3) := by decide +kernel
set_option maxRecDepth 20000 in
theorem dX11_come_12 : decode cX11_come 12 = .ok (.ireturn, 1) := by decide +kernel
set_option maxRecDepth 20000 in
theorem dX11_come_13 : decode cX11_come 13 = .ok (.aload_n 0, 1) := by decide +kernel
set_option maxRecDepth 20000 in
theorem dX11_come_14 : decode cX11_come 14 = .ok (.getfield 7, 3) := by decide +kernel
set_option maxRecDepth 20000 in
theorem dX11_come_17 : decode cX11_come 17 = .ok (.bipush 28, 2) := by decide +kernel
set_option maxRecDepth 20000 in
theorem dX11_come_19 : decode cX11_come 19 = .ok (.iload_n 1, 1) := by decide +kernel
set_option maxRecDepth 20000 in
theorem dX11_come_20 : decode cX11_come 20 = .ok (.iadd, 1) := by decide +kernel
set_option maxRecDepth 20000 in
theorem dX11_come_21 : decode cX11_come 21 = .ok (.iaload, 1) := by decide +kernel
set_option maxRecDepth 20000 in
theorem dX11_come_22 : decode cX11_come 22 = .ok (.istore_n 2, 1) := by decide +kernel
set_option maxRecDepth 20000 in
theorem dX11_come_23 : decode cX11_come 23 = .ok (.aload_n 0, 1) := by decide +kernel
set_option maxRecDepth 20000 in
theorem dX11_come_24 : decode cX11_come 24 = .ok (.getfield 7, 3) := by decide +kernel
set_option maxRecDepth 20000 in
theorem dX11_come_27 : decode cX11_come 27 = .ok (.bipush 36, 2) := by decide +kernel
set_option maxRecDepth 20000 in
theorem dX11_come_29 : decode cX11_come 29 = .ok (.iload_n 1, 1) := by decide +kernel
set_option maxRecDepth 20000 in
theorem dX11_come_30 : decode cX11_come 30 = .ok (.iadd, 1) := by decide +kernel
set_option maxRecDepth 20000 in
theorem dX11_come_31 : decode cX11_come 31 = .ok (.iaload, 1) := by decide +kernel
set_option maxRecDepth 20000 in
theorem dX11_come_32 : decode cX11_come 32 = .ok (.istore_n 3, 1) := by decide +kernel
set_option maxRecDepth 20000 in
theorem dX11_come_33 : decode cX11_come 33 = .ok (.iconst 0, 1) := by decide +kernel
set_option maxRecDepth 20000 in
theorem dX11_come_34 : decode cX11_come 34 = .ok (.istore 4, 2) := by decide +kernel
set_option maxRecDepth 20000 in
theorem dX11_come_36 : decode cX11_come 36 = .ok (.iconst (-1), 1) := by decide +kernel
set_option maxRecDepth 20000 in
theorem dX11_come_37 : decode cX11_come 37 = .ok (.istore 5, 2) := by decide +kernel
set_option maxRecDepth 20000 in
theorem dX11_come_39 : decode cX11_come 39 = .ok (.aload_n 0, 1) := by decide +kernel
set_option maxRecDepth 20000 in
theorem dX11_come_40 : decode cX11_come 40 = .ok (.iconst (-1), 1) := by decide +kernel
set_option maxRecDepth 20000 in
theorem dX11_come_41 : decode cX11_come 41 = .ok (.putfield 162, 3) := by decide +kernel
set_option maxRecDepth 20000 in
theorem dX11_come_44 : decode cX11_come 44 = .ok (.aload_n 0, 1) := by decide +kernel
set_option maxRecDepth 20000 in
theorem dX11_come_45 : decode cX11_come 45 = .ok (.getfield 7, 3) := by decide +kernel
set_option maxRecDepth 20000 in
theorem dX11_come_48 : decode cX11_come 48 = .ok (.bipush 28, 2) := by decide +kernel
set_option maxRecDepth 20000 in
theorem dX11_come_50 : decode cX11_come 50 = .ok (.iload_n 1, 1) := by decide +kernel
set_option maxRecDepth 20000 in
theorem dX11_come_51 : decode cX11_come 51 = .ok (.iadd, 1) := by decide +kernel
set_option maxRecDepth 20000 in
theorem dX11_come_52 : decode cX11_come 52 = .ok (.iconst 0, 1) := by decide +kernel
set_option maxRecDepth 20000 in
theorem dX11_come_53 : decode cX11_come 53 = .ok (.iastore, 1) := by decide +kernel
set_option maxRecDepth 20000 in
theorem dX11_come_54 : decode cX11_come 54 = .ok (.iconst 0, 1) := by decide +kernel
set_option maxRecDepth 20000 in
theorem dX11_come_55 : decode cX11_come 55 = .ok (.istore 6, 2) := by decide +kernel
set_option maxRecDepth 20000 in
theorem dX11_come_57 : decode cX11_come 57 = .ok (.iload 6, 2) := by decide +kernel
set_option maxRecDepth 20000 in
theorem dX11_come_59 : decode cX11_come 59 = .ok (.bipush 10, 2) := by decide +kernel
set_option maxRecDepth 20000 in
theorem dX11_come_61 : decode cX11_come 61 = .ok (.if_icmp .ge 111, 3) := by decide +kernel
set_option maxRecDepth 20000 in
theorem dX11_come_64 : decode cX11_come 64 = .ok (.aload_n 0, 1) := by decide +kernel
set_option maxRecDepth 20000 in
theorem dX11_come_65 : decode cX11_come 65 = .ok (.getfield 7, 3) := by decide +kernel
set_option maxRecDepth 20000 in
theorem dX11_come_68 : decode cX11_come 68 = .ok (.bipush 36, 2) := by decide +kernel
set_option maxRecDepth 20000 in
theorem dX11_come_70 : decode cX11_come 70 = .ok (.iload_n 1, 1) := by decide +kernel
set_option maxRecDepth 20000 in
theorem dX11_come_71 : decode cX11_come 71 = .ok (.iadd, 1) := by decide +kernel
set_option maxRecDepth 20000 in
theorem dX11_come_72 : decode cX11_come 72 = .ok (.iload 6, 2) := by decide +kernel
set_option maxRecDepth 20000 in
theorem dX11_come_74 : decode cX11_come 74 = .ok (.iastore, 1) := by decide +kernel
set_option maxRecDepth 20000 in
theorem dX11_come_75 : decode cX11_come 75 = .ok (.aload_n 0, 1) := by decide +kernel
set_option maxRecDepth 20000 in
theorem dX11_come_76 : decode cX11_come 76 = .ok (.sipush 255, 3) := by decide +kernel
set_option maxRecDepth 20000 in
theorem dX11_come_79 : decode cX11_come 79 = .ok (.invokevirtual 189, 3) := by decide +kernel
set_option maxRecDepth 20000 in
theorem dX11_come_82 : decode cX11_come 82 = .ok (.aload_n 0, 1) := by decide +kernel
set_option maxRecDepth 20000 in
theorem dX11_come_83 : decode cX11_come 83 = .ok (.getfield 27, 3) := by decide +kernel
set_option maxRecDepth 20000 in
theorem dX11_come_86 : decode cX11_come 86 = .ok (.iload_n 1, 1) := by decide +kernel
set_option maxRecDepth 20000 in
theorem dX11_come_87 : decode cX11_come 87 = .ok (.iaload, 1) := by decide +kernel
set_option maxRecDepth 20000 in
theorem dX11_come_88 : decode cX11_come 88 = .ok (.iload 5, 2) := by decide +kernel
set_option maxRecDepth 20000 in
theorem dX11_come_90 : decode cX11_come 90 = .ok (.if_icmp .gt 37, 3) := by decide +kernel
set_option maxRecDepth 20000 in
theorem dX11_come_93 : decode cX11_come 93 = .ok (.aload_n 0, 1) := by decide +kernel
set_option maxRecDepth 20000 in
theorem dX11_come_94 : decode cX11_come 94 = .ok (.getfield 27, 3) := by decide +kernel
set_option maxRecDepth 20000 in
theorem dX11_come_97 : decode cX11_come 97 = .ok (.iload_n 1, 1) := by decide +kernel
set_option maxRecDepth 20000 in
theorem dX11_come_98 : decode cX11_come 98 = .ok (.iaload, 1) := by decide +kernel
set_option maxRecDepth 20000 in
theorem dX11_come_99 : decode cX11_come 99 = .ok (.iload 5, 2) := by decide +kernel
set_option maxRecDepth 20000 in
theorem dX11_come_101 : decode cX11_come 101 = .ok (.if_icmp .ne 30, 3) := by decide +kernel
set_option maxRecDepth 20000 in
theorem dX11_come_104 : decode cX11_come 104 = .ok (.aload_n 0, 1) := by decide +kernel
set_option maxRecDepth 20000 in
theorem dX11_come_105 : decode cX11_come 105 = .ok (.getfield 7, 3) := by decide +kernel
set_option maxRecDepth 20000 in
theorem dX11_come_108 : decode cX11_come 108 = .ok (.bipush 8, 2) := by decide +kernel
set_option maxRecDepth 20000 in
theorem dX11_come_110 : decode cX11_come 110 = .ok (.iload 6, 2) := by decide +kernel
set_option maxRecDepth 20000 in
theorem dX11_come_112 : decode cX11_come 112 = .ok (.iadd, 1) := by decide +kernel
set_option maxRecDepth 20000 in
theorem dX11_come_113 : decode cX11_come 113 = .ok (.iaload, 1) := by decide +kernel
set_option maxRecDepth 20000 in
theorem dX11_come_114 : decode cX11_come 114 = .ok (.aload_n 0, 1) := by decide +kernel
set_option maxRecDepth 20000 in
theorem dX11_come_115 : decode cX11_come 115 = .ok (.getfield 7, 3) := by decide +kernel
set_option maxRecDepth 20000 in
theorem dX11_come_118 : decode cX11_come 118 = .ok (.bipush 8, 2) := by decide +kernel
set_option maxRecDepth 20000 in
theorem dX11_come_120 : decode cX11_come 120 = .ok (.iload 4, 2) := by decide +kernel
set_option maxRecDepth 20000 in
theorem dX11_come_122 : decode cX11_come 122 = .ok (.iadd, 1) := by decide +kernel
set_option maxRecDepth 20000 in
theorem dX11_come_123 : decode cX11_come 123 = .ok (.iaload, 1) := by decide +kernel
set_option maxRecDepth 20000 in
theorem dX11_come_124 : decode cX11_come 124 = .ok (.if_icmp .ge 7, 3) := by decide +kernel
set_option maxRecDepth 20000 in
theorem dX11_come_127 : decode cX11_come 127 = .ok (.iconst 1, 1) := by decide +kernel
set_option maxRecDepth 20000 in
theorem dX11_come_128 : decode cX11_come 128 = .ok (.goto 4, 3) := by decide +kernel
set_option maxRecDepth 20000 in
theorem dX11_come_131 : decode cX11_come 131 = .ok (.iconst 0, 1) := by decide +kernel
set_option maxRecDepth 20000 in
theorem dX11_come_132 : decode cX11_come 132 = .ok (.istore 7, 2) := by decide +kernel
set_option maxRecDepth 20000 in
theorem dX11_come_134 : decode cX11_come 134 = .ok (.iload 7, 2) := by decide +kernel
set_option maxRecDepth 20000 in
theorem dX11_come_136 : decode cX11_come 136 = .ok (.ifCond .eq 8, 3) := by decide +kernel
set_option maxRecDepth 20000 in
theorem dX11_come_139 : decode cX11_come 139 = .ok (.iload 6, 2) := by decide +kernel
set_option maxRecDepth 20000 in
theorem dX11_come_141 : decode cX11_come 141 = .ok (.goto 5, 3) := by decide +kernel
set_option maxRecDepth 20000 in
theorem dX11_come_144 : decode cX11_come 144 = .ok (.iload 4, 2) := by decide +kernel
set_option maxRecDepth 20000 in
theorem dX11_come_146 : decode cX11_come 146 = .ok (.istore 4, 2) := by decide +kernel
set_option maxRecDepth 20000 in
theorem dX11_come_148 : decode cX11_come 148 = .ok (.iload 7, 2) := by decide +kernel
set_option maxRecDepth 20000 in
theorem dX11_come_150 : decode cX11_come 150 = .ok (.ifCond .eq 12, 3) := by decide +kernel
set_option maxRecDepth 20000 in
theorem dX11_come_153 : decode cX11_come 153 = .ok (.aload_n 0, 1) := by decide +kernel
set_option maxRecDepth 20000 in
theorem dX11_come_154 : decode cX11_come 154 = .ok (.getfield 27, 3) := by decide +kernel
set_option maxRecDepth 20000 in
theorem dX11_come_157 : decode cX11_come 157 = .ok (.iload_n 1, 1) := by decide +kernel
set_option maxRecDepth 20000 in
theorem dX11_come_158 : decode cX11_come 158 = .ok (.iaload, 1) := by decide +kernel
set_option maxRecDepth 20000 in
theorem dX11_come_159 : decode cX11_come 159 = .ok (.goto 5, 3) := by decide +kernel
set_option maxRecDepth 20000 in
theorem dX11_come_162 : decode cX11_come 162 = .ok (.iload 5, 2) := by decide +kernel
set_option maxRecDepth 20000 in
theorem dX11_come_164 : decode cX11_come 164 = .ok (.istore 5, 2) := by decide +kernel
set_option maxRecDepth 20000 in
theorem dX11_come_166 : decode cX11_come 166 = .ok (.iinc 6 1, 3) := by decide +kernel
set_option maxRecDepth 20000 in
theorem dX11_come_169 : decode cX11_come 169 = .ok (.goto (-112), 3) := by decide +kernel
set_option maxRecDepth 20000 in
theorem dX11_come_172 : decode cX11_come 172 = .ok (.aload_n 0, 1) := by decide +kernel
set_option maxRecDepth 20000 in
theorem dX11_come_173 : decode cX11_come 173 = .ok (.getfield 7, 3) := by decide +kernel
set_option maxRecDepth 20000 in
theorem dX11_come_176 : decode cX11_come 176 = .ok (.bipush 28, 2) := by decide +kernel
set_option maxRecDepth 20000 in
theorem dX11_come_178 : decode cX11_come 178 = .ok (.iload_n 1, 1) := by decide +kernel
set_option maxRecDepth 20000 in
theorem dX11_come_179 : decode cX11_come 179 = .ok (.iadd, 1) := by decide +kernel
set_option maxRecDepth 20000 in
theorem dX11_come_180 : decode cX11_come 180 = .ok (.iload_n 2, 1) := by decide +kernel
set_option maxRecDepth 20000 in
theorem dX11_come_181 : decode cX11_come 181 = .ok (.iastore, 1) := by decide +kernel
set_option maxRecDepth 20000 in
theorem dX11_come_182 : decode cX11_come 182 = .ok (.aload_n 0, 1) := by decide +kernel
set_option maxRecDepth 20000 in
theorem dX11_come_183 : decode cX11_come 183 = .ok (.getfield 7, 3) := by decide +kernel
set_option maxRecDepth 20000 in
theorem dX11_come_186 : decode cX11_come 186 = .ok (.bipush 36, 2) := by decide +kernel
set_option maxRecDepth 20000 in
theorem dX11_come_188 : decode cX11_come 188 = .ok (.iload_n 1, 1) := by decide +kernel
set_option maxRecDepth 20000 in
theorem dX11_come_189 : decode cX11_come 189 = .ok (.iadd, 1) := by decide +kernel
set_option maxRecDepth 20000 in
theorem dX11_come_190 : decode cX11_come 190 = .ok (.iload_n 3, 1) := by decide +kernel
set_option maxRecDepth 20000 in
theorem dX11_come_191 : decode cX11_come 191 = .ok (.iastore, 1) := by decide +kernel
set_option maxRecDepth 20000 in
theorem dX11_come_192 : decode cX11_come 192 = .ok (.iload 4, 2) := by decide +kernel
set_option maxRecDepth 20000 in
theorem dX11_come_194 : decode cX11_come 194 = .ok (.ireturn, 1) := by decide +kernel
set_option maxRecDepth 20000 in
theorem dX11_stalls_0 : decode cX11_stalls 0 = .ok (.iload_n 1, 1) := by decide +kernel
set_option maxRecDepth 20000 in
theorem dX11_stalls_1 : decode cX11_stalls 1 = .ok (.invokestatic 57, 3) := by decide +kernel
set_option maxRecDepth 20000 in
theorem dX11_stalls_4 : decode cX11_stalls 4 = .ok (.ifCond .eq 25, 3) := by decide +kernel
set_option maxRecDepth 20000 in
theorem dX11_stalls_7 : decode cX11_stalls 7 = .ok (.iload_n 2, 1) := by decide +kernel
set_option maxRecDepth 20000 in
theorem dX11_stalls_8 : decode cX11_stalls 8 = .ok (.invokestatic 57, 3) := by decide +kernel
set_option maxRecDepth 20000 in
theorem dX11_stalls_11 : decode cX11_stalls 11 = .ok (.ifCond .eq 18, 3) := by decide +kernel
set_option maxRecDepth 20000 in
theorem dX11_stalls_14 : decode cX11_stalls 14 = .ok (.iload_n 2, 1) := by decide +kernel
set_option maxRecDepth 20000 in
theorem dX11_stalls_15 : decode cX11_stalls 15 = .ok (.iload_n 1, 1) := by decide +kernel
set_option maxRecDepth 20000 in
theorem dX11_stalls_16 : decode cX11_stalls 16 = .ok (.if_icmp .gt 13, 3) := by decide +kernel
set_option maxRecDepth 20000 in
theorem dX11_stalls_19 : decode cX11_stalls 19 = .ok (.iload_n 3, 1) := by decide +kernel
set_option maxRecDepth 20000 in
theorem dX11_stalls_20 : decode cX11_stalls 20 = .ok (.i2l, 1) := by decide +kernel
set_option maxRecDepth 20000 in
theorem dX11_stalls_21 : decode cX11_stalls 21 = .ok (.lconst 0, 1) := by decide +kernel
set_option maxRecDepth 20000 in
theorem dX11_stalls_22 : decode cX11_stalls 22 = .ok (.lconst 1, 1) := by decide +kernel
set_option maxRecDepth 20000 in
theorem dX11_stalls_23 : decode cX11_stalls 23 = .ok (.invokestatic 51, 3) := by decide +kernel
set_option maxRecDepth 20000 in
theorem dX11_stalls_26 : decode cX11_stalls 26 = .ok (.ifCond .ne 10, 3) := by decide +kernel
set_option maxRecDepth 20000 in
theorem dX11_stalls_29 : decode cX11_stalls 29 = .ok (.aload_n 0, 1) := by decide +kernel
set_option maxRecDepth 20000 in
theorem dX11_stalls_30 : decode cX11_stalls 30 = .ok (.bipush (-10), 2) := by decide +kernel
set_option maxRecDepth 20000 in
theorem dX11_stalls_32 : decode cX11_stalls 32 = .ok (.invokevirtual 220, 3) := by decide +kernel
set_option maxRecDepth 20000 in
theorem dX11_stalls_35 : decode cX11_stalls 35 = .ok (.ireturn, 1) := by decide +kernel
set_option maxRecDepth 20000 in
theorem dX11_stalls_36 : decode cX11_stalls 36 = .ok (.aload_n 0, 1) := by decide +kernel
set_option maxRecDepth 20000 in
theorem dX11_stalls_37 : decode cX11_stalls 37 = .ok (.invokevirtual 213, 3) := by decide +kernel
set_option maxRecDepth 20000 in
theorem dX11_stalls_40 : decode cX11_stalls 40 = .ok (.iconst 0, 1) := by decide +kernel
set_option maxRecDepth 20000 in
theorem dX11_stalls_41 : decode cX11_stalls 41 = .ok (.istore 4, 2) := by decide +kernel
set_option maxRecDepth 20000 in
theorem dX11_stalls_43 : decode cX11_stalls 43 = .ok (.iload 4, 2) := by decide +kernel
set_option maxRecDepth 20000 in
theorem dX11_stalls_45 : decode cX11_stalls 45 = .ok (.bipush 121, 2) := by decide +kernel
set_option maxRecDepth 20000 in
theorem dX11_stalls_47 : decode cX11_stalls 47 = .ok (.if_icmp .ge 104, 3) := by decide +kernel
set_option maxRecDepth 20000 in
theorem dX11_stalls_50 : decode cX11_stalls 50 = .ok (.iconst 0, 1) := by decide +kernel
set_option maxRecDepth 20000 in
theorem dX11_stalls_51 : decode cX11_stalls 51 = .ok (.istore 5, 2) := by decide +kernel
set_option maxRecDepth 20000 in
theorem dX11_stalls_53 : decode cX11_stalls 53 = .ok (.iload 5, 2) := by decide +kernel
set_option maxRecDepth 20000 in
theorem dX11_stalls_55 : decode cX11_stalls 55 = .ok (.bipush 10, 2) := by decide +kernel
set_option maxRecDepth 20000 in
theorem dX11_stalls_57 : decode cX11_stalls 57 = .ok (.if_icmp .ge 59, 3) := by decide +kernel
set_option maxRecDepth 20000 in
theorem dX11_stalls_60 : decode cX11_stalls 60 = .ok (.aload_n 0, 1) := by decide +kernel
set_option maxRecDepth 20000 in
theorem dX11_stalls_61 : decode cX11_stalls 61 = .ok (.getfield 7, 3) := by decide +kernel
set_option maxRecDepth 20000 in
theorem dX11_stalls_64 : decode cX11_stalls 64 = .ok (.bipush 8, 2) := by decide +kernel
set_option maxRecDepth 20000 in
theorem dX11_stalls_66 : decode cX11_stalls 66 = .ok (.iload 5, 2) := by decide +kernel
set_option maxRecDepth 20000 in
theorem dX11_stalls_68 : decode cX11_stalls 68 = .ok (.iadd, 1) := by decide +kernel
set_option maxRecDepth 20000 in
theorem dX11_stalls_69 : decode cX11_stalls 69 = .ok (.iload 5, 2) := by decide +kernel
set_option maxRecDepth 20000 in
theorem dX11_stalls_71 : decode cX11_stalls 71 = .ok (.iload 4, 2) := by decide +kernel
set_option maxRecDepth 20000 in
theorem dX11_stalls_73 : decode cX11_stalls 73 = .ok (.bipush 11, 2) := by decide +kernel
set_option maxRecDepth 20000 in
theorem dX11_stalls_75 : decode cX11_stalls 75 = .ok (.idiv, 1) := by decide +kernel
set_option maxRecDepth 20000 in
theorem dX11_stalls_76 : decode cX11_stalls 76 = .ok (.if_icmp .ge 7, 3) := by decide +kernel
set_option maxRecDepth 20000 in
theorem dX11_stalls_79 : decode cX11_stalls 79 = .ok (.iload_n 1, 1) := by decide +kernel
set_option maxRecDepth 20000 in
theorem dX11_stalls_80 : decode cX11_stalls 80 = .ok (.goto 4, 3) := by decide +kernel
set_option maxRecDepth 20000 in
theorem dX11_stalls_83 : decode cX11_stalls 83 = .ok (.iload_n 2, 1) := by decide +kernel
set_option maxRecDepth 20000 in
theorem dX11_stalls_84 : decode cX11_stalls 84 = .ok (.iastore, 1) := by decide +kernel
set_option maxRecDepth 20000 in
theorem dX11_stalls_85 : decode cX11_stalls 85 = .ok (.aload_n 0, 1) := by decide +kernel
set_option maxRecDepth 20000 in
theorem dX11_stalls_86 : decode cX11_stalls 86 = .ok (.getfield 7, 3) := by decide +kernel
set_option maxRecDepth 20000 in
theorem dX11_stalls_89 : decode cX11_stalls 89 = .ok (.bipush 18, 2) := by decide +kernel
set_option maxRecDepth 20000 in
theorem dX11_stalls_91 : decode cX11_stalls 91 = .ok (.iload 5, 2) := by decide +kernel
set_option maxRecDepth 20000 in
theorem dX11_stalls_93 : decode cX11_stalls 93 = .ok (.iadd, 1) := by decide +kernel
set_option maxRecDepth 20000 in
theorem dX11_stalls_94 : decode cX11_stalls 94 = .ok (.iload 5, 2) := by decide +kernel
set_option maxRecDepth 20000 in
theorem dX11_stalls_96 : decode cX11_stalls 96 = .ok (.iload 4, 2) := by decide +kernel
set_option maxRecDepth 20000 in
theorem dX11_stalls_98 : decode cX11_stalls 98 = .ok (.bipush 11, 2) := by decide +kernel
set_option maxRecDepth 20000 in
theorem dX11_stalls_100 : decode cX11_stalls 100 = .ok (.irem, 1) := by decide +kernel
set_option maxRecDepth 20000 in
theorem dX11_stalls_101 : decode cX11_stalls 101 = .ok (.if_icmp .ge 7, 3) := by decide +kernel
set_option maxRecDepth 20000 in
theorem dX11_stalls_104 : decode cX11_stalls 104 = .ok (.iload_n 1, 1) := by decide +kernel
set_option maxRecDepth 20000 in
theorem dX11_stalls_105 : decode cX11_stalls 105 = .ok (.goto 4, 3) := by decide +kernel
set_option maxRecDepth 20000 in
theorem dX11_stalls_108 : decode cX11_stalls 108 = .ok (.iload_n 2, 1) := by decide +kernel
set_option maxRecDepth 20000 in
theorem dX11_stalls_109 : decode cX11_stalls 109 = .ok (.iastore, 1) := by decide +kernel
set_option maxRecDepth 20000 in
theorem dX11_stalls_110 : decode cX11_stalls 110 = .ok (.iinc 5 1, 3) := by decide +kernel
set_option maxRecDepth 20000 in
theorem dX11_stalls_113 : decode cX11_stalls 113 = .ok (.goto (-60), 3) := by decide +kernel
set_option maxRecDepth 20000 in
theorem dX11_stalls_116 : decode cX11_stalls 116 = .ok (.aload_n 0, 1) := by decide +kernel
set_option maxRecDepth 20000 in
theorem dX11_stalls_117 : decode cX11_stalls 117 = .ok (.sipush 255, 3) := by decide +kernel
set_option maxRecDepth 20000 in
theorem dX11_stalls_120 : decode cX11_stalls 120 = .ok (.invokevirtual 189, 3) := by decide +kernel
set_option maxRecDepth 20000 in
theorem dX11_stalls_123 : decode cX11_stalls 123 = .ok (.aload_n 0, 1) := by decide +kernel
set_option maxRecDepth 20000 in
theorem dX11_stalls_124 : decode cX11_stalls 124 = .ok (.getfield 39, 3) := by decide +kernel
set_option maxRecDepth 20000 in
theorem dX11_stalls_127 : decode cX11_stalls 127 = .ok (.iload 4, 2) := by decide +kernel
set_option maxRecDepth 20000 in
theorem dX11_stalls_129 : decode cX11_stalls 129 = .ok (.aload_n 0, 1) := by decide +kernel
set_option maxRecDepth 20000 in
theorem dX11_stalls_130 : decode cX11_stalls 130 = .ok (.getfield 177, 3) := by decide +kernel
set_option maxRecDepth 20000 in
theorem dX11_stalls_133 : decode cX11_stalls 133 = .ok (.iastore, 1) := by decide +kernel
set_option maxRecDepth 20000 in
theorem dX11_stalls_134 : decode cX11_stalls 134 = .ok (.aload_n 0, 1) := by decide +kernel
set_option maxRecDepth 20000 in
theorem dX11_stalls_135 : decode cX11_stalls 135 = .ok (.getfield 42, 3) := by decide +kernel
set_option maxRecDepth 20000 in
theorem dX11_stalls_138 : decode cX11_stalls 138 = .ok (.iload 4, 2) := by decide +kernel
set_option maxRecDepth 20000 in
theorem dX11_stalls_140 : decode cX11_stalls 140 = .ok (.aload_n 0, 1) := by decide +kernel
set_option maxRecDepth 20000 in
theorem dX11_stalls_141 : decode cX11_stalls 141 = .ok (.getfield 168, 3) := by decide +kernel
set_option maxRecDepth 20000 in
theorem dX11_stalls_144 : decode cX11_stalls 144 = .ok (.iastore, 1) := by decide +kernel
set_option maxRecDepth 20000 in
theorem dX11_stalls_145 : decode cX11_stalls 145 = .ok (.iinc 4 1, 3) := by decide +kernel
set_option maxRecDepth 20000 in
theorem dX11_stalls_148 : decode cX11_stalls 148 = .ok (.goto (-105), 3) := by decide +kernel
set_option maxRecDepth 20000 in
theorem dX11_stalls_151 : decode cX11_stalls 151 = .ok (.aload_n 0, 1) := by decide +kernel
set_option maxRecDepth 20000 in
theorem dX11_stalls_152 : decode cX11_stalls 152 = .ok (.invokevirtual 216, 3) := by decide +kernel
set_option maxRecDepth 20000 in
theorem dX11_stalls_155 : decode cX11_stalls 155 = .ok (.iconst 0, 1) := by decide +kernel
set_option maxRecDepth 20000 in
theorem dX11_stalls_156 : decode cX11_stalls 156 = .ok (.istore 4, 2) := by decide +kernel
set_option maxRecDepth 20000 in
theorem dX11_stalls_158 : decode cX11_stalls 158 = .ok (.iconst (-1), 1) := by decide +kernel
set_option maxRecDepth 20000 in
theorem dX11_stalls_159 : decode cX11_stalls 159 = .ok (.istore 5, 2) := by decide +kernel
set_option maxRecDepth 20000 in
theorem dX11_stalls_161 : decode cX11_stalls 161 = .ok (.iconst 0, 1) := by decide +kernel
set_option maxRecDepth 20000 in
theorem dX11_stalls_162 : decode cX11_stalls 162 = .ok (.istore 6, 2) := by decide +kernel
set_option maxRecDepth 20000 in
theorem dX11_stalls_164 : decode cX11_stalls 164 = .ok (.iload 6, 2) := by decide +kernel
set_option maxRecDepth 20000 in
theorem dX11_stalls_166 : decode cX11_stalls 166 = .ok (.bipush 121, 2) := by decide +kernel
set_option maxRecDepth 20000 in
theorem dX11_stalls_168 : decode cX11_stalls 168 = .ok (.if_icmp .ge 126, 3) := by decide +kernel
set_option maxRecDepth 20000 in
theorem dX11_stalls_171 : decode cX11_stalls 171 = .ok (.iconst 1, 1) := by decide +kernel
set_option maxRecDepth 20000 in
theorem dX11_stalls_172 : decode cX11_stalls 172 = .ok (.istore 7, 2) := by decide +kernel
set_option maxRecDepth 20000 in
theorem dX11_stalls_174 : decode cX11_stalls 174 = .ok (.iconst 0, 1) := by decide +kernel
set_option maxRecDepth 20000 in
theorem dX11_stalls_175 : decode cX11_stalls 175 = .ok (.istore 8, 2) := by decide +kernel
set_option maxRecDepth 20000 in
theorem dX11_stalls_177 : decode cX11_stalls 177 = .ok (.iload 8, 2) := by decide +kernel
set_option maxRecDepth 20000 in
theorem dX11_stalls_179 : decode cX11_stalls 179 = .ok (.bipush 10, 2) := by decide +kernel
set_option maxRecDepth 20000 in
theorem dX11_stalls_181 : decode cX11_stalls 181 = .ok (.if_icmp .gt 73, 3) := by decide +kernel
set_option maxRecDepth 20000 in
theorem dX11_stalls_184 : decode cX11_stalls 184 = .ok (.iload 7, 2) := by decide +kernel
set_option maxRecDepth 20000 in
theorem dX11_stalls_186 : decode cX11_stalls 186 = .ok (.ifCond .eq 59, 3) := by decide +kernel
set_option maxRecDepth 20000 in
theorem dX11_stalls_189 : decode cX11_stalls 189 = .ok (.aload_n 0, 1) := by decide +kernel
set_option maxRecDepth 20000 in
theorem dX11_stalls_190 : decode cX11_stalls 190 = .ok (.getfield 39, 3) := by decide +kernel
set_option maxRecDepth 20000 in
theorem dX11_stalls_193 : decode cX11_stalls 193 = .ok (.bipush 11, 2) := by decide +kernel
set_option maxRecDepth 20000 in
theorem dX11_stalls_195 : decode cX11_stalls 195 = .ok (.iload 8, 2) := by decide +kernel
set_option maxRecDepth 20000 in
theorem dX11_stalls_197 : decode cX11_stalls 197 = .ok (.imul, 1) := by decide +kernel
set_option maxRecDepth 20000 in
theorem dX11_stalls_198 : decode cX11_stalls 198 = .ok (.iload 6, 2) := by decide +kernel
set_option maxRecDepth 20000 in
theorem dX11_stalls_200 : decode cX11_stalls 200 = .ok (.bipush 11, 2) := by decide +kernel
set_option maxRecDepth 20000 in
theorem dX11_stalls_202 : decode cX11_stalls 202 = .ok (.irem, 1) := by decide +kernel
set_option maxRecDepth 20000 in
theorem dX11_stalls_203 : decode cX11_stalls 203 = .ok (.iadd, 1) := by decide +kernel
set_option maxRecDepth 20000 in
theorem dX11_stalls_204 : decode cX11_stalls 204 = .ok (.iaload, 1) := by decide +kernel
set_option maxRecDepth 20000 in
theorem dX11_stalls_205 : decode cX11_stalls 205 = .ok (.aload_n 0, 1) := by decide +kernel
set_option maxRecDepth 20000 in
theorem dX11_stalls_206 : decode cX11_stalls 206 = .ok (.getfield 39, 3) := by decide +kernel
set_option maxRecDepth 20000 in
theorem dX11_stalls_209 : decode cX11_stalls 209 = .ok (.iload 6, 2) := by decide +kernel
set_option maxRecDepth 20000 in
theorem dX11_stalls_211 : decode cX11_stalls 211 = .ok (.iaload, 1) := by decide +kernel
set_option maxRecDepth 20000 in
theorem dX11_stalls_212 : decode cX11_stalls 212 = .ok (.if_icmp .gt 33, 3) := by decide +kernel
set_option maxRecDepth 20000 in
theorem dX11_stalls_215 : decode cX11_stalls 215 = .ok (.aload_n 0, 1) := by decide +kernel
set_option maxRecDepth 20000 in
theorem dX11_stalls_216 : decode cX11_stalls 216 = .ok (.getfield 42, 3) := by decide +kernel
set_option maxRecDepth 20000 in
theorem dX11_stalls_219 : decode cX11_stalls 219 = .ok (.iload 6, 2) := by decide +kernel
set_option maxRecDepth 20000 in
theorem dX11_stalls_221 : decode cX11_stalls 221 = .ok (.bipush 11, 2) := by decide +kernel
set_option maxRecDepth 20000 in
theorem dX11_stalls_223 : decode cX11_stalls 223 = .ok (.idiv, 1) := by decide +kernel
set_option maxRecDepth 20000 in
theorem dX11_stalls_224 : decode cX11_stalls 224 = .ok (.bipush 11, 2) := by decide +kernel
set_option maxRecDepth 20000 in
theorem dX11_stalls_226 : decode cX11_stalls 226 = .ok (.imul, 1) := by decide +kernel
set_option maxRecDepth 20000 in
theorem dX11_stalls_227 : decode cX11_stalls 227 = .ok (.iload 8, 2) := by decide +kernel
set_option maxRecDepth 20000 in
theorem dX11_stalls_229 : decode cX11_stalls 229 = .ok (.iadd, 1) := by decide +kernel
set_option maxRecDepth 20000 in
theorem dX11_stalls_230 : decode cX11_stalls 230 = .ok (.iaload, 1) := by decide +kernel
set_option maxRecDepth 20000 in
theorem dX11_stalls_231 : decode cX11_stalls 231 = .ok (.aload_n 0, 1) := by decide +kernel
set_option maxRecDepth 20000 in
theorem dX11_stalls_232 : decode cX11_stalls 232 = .ok (.getfield 42, 3) := by decide +kernel
set_option maxRecDepth 20000 in
theorem dX11_stalls_235 : decode cX11_stalls 235 = .ok (.iload 6, 2) := by decide +kernel
set_option maxRecDepth 20000 in
theorem dX11_stalls_237 : decode cX11_stalls 237 = .ok (.iaload, 1) := by decide +kernel
set_option maxRecDepth 20000 in
theorem dX11_stalls_238 : decode cX11_stalls 238 = .ok (.if_icmp .gt 7, 3) := by decide +kernel
set_option maxRecDepth 20000 in
theorem dX11_stalls_241 : decode cX11_stalls 241 = .ok (.iconst 1, 1) := by decide +kernel
set_option maxRecDepth 20000 in
theorem dX11_stalls_242 : decode cX11_stalls 242 = .ok (.goto 4, 3) := by decide +kernel
set_option maxRecDepth 20000 in
theorem dX11_stalls_245 : decode cX11_stalls 245 = .ok (.iconst 0, 1) := by decide +kernel
set_option maxRecDepth 20000 in
theorem dX11_stalls_246 : decode cX11_stalls 246 = .ok (.istore 7, 2) := by decide +kernel
set_option maxRecDepth 20000 in
theorem dX11_stalls_248 : decode cX11_stalls 248 = .ok (.iinc 8 1, 3) := by decide +kernel
set_option maxRecDepth 20000 in
theorem dX11_stalls_251 : decode cX11_stalls 251 = .ok (.goto (-74), 3) := by decide +kernel
set_option maxRecDepth 20000 in
theorem dX11_stalls_254 : decode cX11_stalls 254 = .ok (.iload 7, 2) := by decide +kernel
set_option maxRecDepth 20000 in
theorem dX11_stalls_256 : decode cX11_stalls 256 = .ok (.ifCond .eq 13, 3) := by decide +kernel
set_option maxRecDepth 20000 in
theorem dX11_stalls_259 : decode cX11_stalls 259 = .ok (.iload 4, 2) := by decide +kernel
set_option maxRecDepth 20000 in
theorem dX11_stalls_261 : decode cX11_stalls 261 = .ok (.ifCond .ne 8, 3) := by decide +kernel
set_option maxRecDepth 20000 in
theorem dX11_stalls_264 : decode cX11_stalls 264 = .ok (.iload 6, 2) := by decide +kernel
set_option maxRecDepth 20000 in
theorem dX11_stalls_266 : decode cX11_stalls 266 = .ok (.goto 5, 3) := by decide +kernel
set_option maxRecDepth 20000 in
theorem dX11_stalls_269 : decode cX11_stalls 269 = .ok (.iload 5, 2) := by decide +kernel
set_option maxRecDepth 20000 in
theorem dX11_stalls_271 : decode cX11_stalls 271 = .ok (.istore 5, 2) := by decide +kernel
set_option maxRecDepth 20000 in
theorem dX11_stalls_273 : decode cX11_stalls 273 = .ok (.iload 4, 2) := by decide +kernel
set_option maxRecDepth 20000 in
theorem dX11_stalls_275 : decode cX11_stalls 275 = .ok (.iload 7, 2) := by decide +kernel
set_option maxRecDepth 20000 in
theorem dX11_stalls_277 : decode cX11_stalls 277 = .ok (.ifCond .eq 7, 3) := by decide +kernel
set_option maxRecDepth 20000 in
theorem dX11_stalls_280 : decode cX11_stalls 280 = .ok (.iconst 1, 1) := by decide +kernel
set_option maxRecDepth 20000 in
theorem dX11_stalls_281 : decode cX11_stalls 281 = .ok (.goto 4, 3) := by decide +kernel
set_option maxRecDepth 20000 in
theorem dX11_stalls_284 : decode cX11_stalls 284 = .ok (.iconst 0, 1) := by decide +kernel
set_option maxRecDepth 20000 in
theorem dX11_stalls_285 : decode cX11_stalls 285 = .ok (.iadd, 1) := by decide +kernel
set_option maxRecDepth 20000 in
theorem dX11_stalls_286 : decode cX11_stalls 286 = .ok (.istore 4, 2) := by decide +kernel
set_option maxRecDepth 20000 in
theorem dX11_stalls_288 : decode cX11_stalls 288 = .ok (.iinc 6 1, 3) := by decide +kernel
set_option maxRecDepth 20000 in
theorem dX11_stalls_291 : decode cX11_stalls 291 = .ok (.goto (-127), 3) := by decide +kernel
set_option maxRecDepth 20000 in
theorem dX11_stalls_294 : decode cX11_stalls 294 = .ok (.iload_n 3, 1) := by decide +kernel
set_option maxRecDepth 20000 in
theorem dX11_stalls_295 : decode cX11_stalls 295 = .ok (.ifCond .ne 8, 3) := by decide +kernel
set_option maxRecDepth 20000 in
theorem dX11_stalls_298 : decode cX11_stalls 298 = .ok (.iload 4, 2) := by decide +kernel
set_option maxRecDepth 20000 in
theorem dX11_stalls_300 : decode cX11_stalls 300 = .ok (.goto 5, 3) := by decide +kernel
set_option maxRecDepth 20000 in
theorem dX11_stalls_303 : decode cX11_stalls 303 = .ok (.iload 5, 2) := by decide +kernel
set_option maxRecDepth 20000 in
theorem dX11_stalls_305 : decode cX11_stalls 305 = .ok (.ireturn, 1) := by decide +kernel
set_option maxRecDepth 20000 in
theorem dX11_tells_0 : decode cX11_tells 0 = .ok (.lload_n 1, 1) := by decide +kernel
set_option maxRecDepth 20000 in
theorem dX11_tells_1 : decode cX11_tells 1 = .ok (.lstore 5, 2) := by decide +kernel
set_option maxRecDepth 20000 in
theorem dX11_tells_3 : decode cX11_tells 3 = .ok (.lload_n 3, 1) := by decide +kernel
set_option maxRecDepth 20000 in
theorem dX11_tells_4 : decode cX11_tells 4 = .ok (.lstore 7, 2) := by decide +kernel
set_option maxRecDepth 20000 in
theorem dX11_tells_6 : decode cX11_tells 6 = .ok (.lload 7, 2) := by decide +kernel
set_option maxRecDepth 20000 in
theorem dX11_tells_8 : decode cX11_tells 8 = .ok (.lconst 0, 1) := by decide +kernel
set_option maxRecDepth 20000 in
theorem dX11_tells_9 : decode cX11_tells 9 = .ok (.lcmp, 1) := by decide +kernel
set_option maxRecDepth 20000 in
theorem dX11_tells_10 : decode cX11_tells 10 = .ok (.ifCond .eq 21, 3) := by decide +kernel
set_option maxRecDepth 20000 in
theorem dX11_tells_13 : decode cX11_tells 13 = .ok (.lload 5, 2) := by decide +kernel
set_option maxRecDepth 20000 in
theorem dX11_tells_15 : decode cX11_tells 15 = .ok (.lload 7, 2) := by decide +kernel
set_option maxRecDepth 20000 in
theorem dX11_tells_17 : decode cX11_tells 17 = .ok (.lrem, 1) := by decide +kernel
set_option maxRecDepth 20000 in
theorem dX11_tells_18 : decode cX11_tells 18 = .ok (.lstore 9, 2) := by decide +kernel
set_option maxRecDepth 20000 in
theorem dX11_tells_20 : decode cX11_tells 20 = .ok (.lload 7, 2) := by decide +kernel
set_option maxRecDepth 20000 in
theorem dX11_tells_22 : decode cX11_tells 22 = .ok (.lstore 5, 2) := by decide +kernel
set_option maxRecDepth 20000 in
theorem dX11_tells_24 : decode cX11_tells 24 = .ok (.lload 9, 2) := by decide +kernel
set_option maxRecDepth 20000 in
theorem dX11_tells_26 : decode cX11_tells 26 = .ok (.lstore 7, 2) := by decide +kernel
set_option maxRecDepth 20000 in
theorem dX11_tells_28 : decode cX11_tells 28 = .ok (.goto (-22), 3) := by decide +kernel
set_option maxRecDepth 20000 in
theorem dX11_tells_31 : decode cX11_tells 31 = .ok (.aload_n 0, 1) := by decide +kernel
set_option maxRecDepth 20000 in
theorem dX11_tells_32 : decode cX11_tells 32 = .ok (.lload_n 1, 1) := by decide +kernel
set_option maxRecDepth 20000 in
theorem dX11_tells_33 : decode cX11_tells 33 = .ok (.lload 5, 2) := by decide +kernel
set_option maxRecDepth 20000 in
theorem dX11_tells_35 : decode cX11_tells 35 = .ok (.ldiv, 1) := by decide +kernel
set_option maxRecDepth 20000 in
theorem dX11_tells_36 : decode cX11_tells 36 = .ok (.putfield 223, 3) := by decide +kernel
set_option maxRecDepth 20000 in
theorem dX11_tells_39 : decode cX11_tells 39 = .ok (.aload_n 0, 1) := by decide +kernel
set_option maxRecDepth 20000 in
theorem dX11_tells_40 : decode cX11_tells 40 = .ok (.lload_n 3, 1) := by decide +kernel
set_option maxRecDepth 20000 in
theorem dX11_tells_41 : decode cX11_tells 41 = .ok (.lload 5, 2) := by decide +kernel
set_option maxRecDepth 20000 in
theorem dX11_tells_43 : decode cX11_tells 43 = .ok (.ldiv, 1) := by decide +kernel
set_option maxRecDepth 20000 in
theorem dX11_tells_44 : decode cX11_tells 44 = .ok (.putfield 23, 3) := by decide +kernel
set_option maxRecDepth 20000 in
theorem dX11_tells_47 : decode cX11_tells 47 = .ok (.return_, 1) := by decide +kernel
set_option maxRecDepth 20000 in
theorem dX11_mean_0 : decode cX11_mean 0 = .ok (.iload_n 1, 1) := by decide +kernel
set_option maxRecDepth 20000 in
theorem dX11_mean_1 : decode cX11_mean 1 = .ok (.i2l, 1) := by decide +kernel
set_option maxRecDepth 20000 in
theorem dX11_mean_2 : decode cX11_mean 2 = .ok (.lconst 0, 1) := by decide +kernel
set_option maxRecDepth 20000 in
theorem dX11_mean_3 : decode cX11_mean 3 = .ok (.ldc2_w 226, 3) := by decide +kernel
set_option maxRecDepth 20000 in
theorem dX11_mean_6 : decode cX11_mean 6 = .ok (.invokestatic 51, 3) := by decide +kernel
set_option maxRecDepth 20000 in
theorem dX11_mean_9 : decode cX11_mean 9 = .ok (.ifCond .ne 8, 3) := by decide +kernel
set_option maxRecDepth 20000 in
theorem dX11_mean_12 : decode cX11_mean 12 = .ok (.aload_n 0, 1) := by decide +kernel
set_option maxRecDepth 20000 in
theorem dX11_mean_13 : decode cX11_mean 13 = .ok (.invokevirtual 61, 3) := by decide +kernel
set_option maxRecDepth 20000 in
theorem dX11_mean_16 : decode cX11_mean 16 = .ok (.ireturn, 1) := by decide +kernel
set_option maxRecDepth 20000 in
theorem dX11_mean_17 : decode cX11_mean 17 = .ok (.aload_n 0, 1) := by decide +kernel
set_option maxRecDepth 20000 in
theorem dX11_mean_18 : decode cX11_mean 18 = .ok (.iconst (-1), 1) := by decide +kernel
set_option maxRecDepth 20000 in
theorem dX11_mean_19 : decode cX11_mean 19 = .ok (.putfield 162, 3) := by decide +kernel
set_option maxRecDepth 20000 in
theorem dX11_mean_22 : decode cX11_mean 22 = .ok (.lconst 0, 1) := by decide +kernel
set_option maxRecDepth 20000 in
theorem dX11_mean_23 : decode cX11_mean 23 = .ok (.lstore_n 2, 1) := by decide +kernel
set_option maxRecDepth 20000 in
theorem dX11_mean_24 : decode cX11_mean 24 = .ok (.lconst 1, 1) := by decide +kernel
set_option maxRecDepth 20000 in
theorem dX11_mean_25 : decode cX11_mean 25 = .ok (.lstore 4, 2) := by decide +kernel
set_option maxRecDepth 20000 in
theorem dX11_mean_27 : decode cX11_mean 27 = .ok (.iconst 0, 1) := by decide +kernel
set_option maxRecDepth 20000 in
theorem dX11_mean_28 : decode cX11_mean 28 = .ok (.istore 6, 2) := by decide +kernel
set_option maxRecDepth 20000 in
theorem dX11_mean_30 : decode cX11_mean 30 = .ok (.iload 6, 2) := by decide +kernel
set_option maxRecDepth 20000 in
theorem dX11_mean_32 : decode cX11_mean 32 = .ok (.aload_n 0, 1) := by decide +kernel
set_option maxRecDepth 20000 in
theorem dX11_mean_33 : decode cX11_mean 33 = .ok (.getfield 7, 3) := by decide +kernel
set_option maxRecDepth 20000 in
theorem dX11_mean_36 : decode cX11_mean 36 = .ok (.iconst 3, 1) := by decide +kernel
set_option maxRecDepth 20000 in
theorem dX11_mean_37 : decode cX11_mean 37 = .ok (.iaload, 1) := by decide +kernel
set_option maxRecDepth 20000 in
theorem dX11_mean_38 : decode cX11_mean 38 = .ok (.if_icmp .ge 17, 3) := by decide +kernel
set_option maxRecDepth 20000 in
theorem dX11_mean_41 : decode cX11_mean 41 = .ok (.lload 4, 2) := by decide +kernel
set_option maxRecDepth 20000 in
theorem dX11_mean_43 : decode cX11_mean 43 = .ok (.ldc2_w 226, 3) := by decide +kernel
set_option maxRecDepth 20000 in
theorem dX11_mean_46 : decode cX11_mean 46 = .ok (.lmul, 1) := by decide +kernel
set_option maxRecDepth 20000 in
theorem dX11_mean_47 : decode cX11_mean 47 = .ok (.lstore 4, 2) := by decide +kernel
set_option maxRecDepth 20000 in
theorem dX11_mean_49 : decode cX11_mean 49 = .ok (.iinc 6 1, 3) := by decide +kernel
set_option maxRecDepth 20000 in
theorem dX11_mean_52 : decode cX11_mean 52 = .ok (.goto (-22), 3) := by decide +kernel
set_option maxRecDepth 20000 in
theorem dX11_mean_55 : decode cX11_mean 55 = .ok (.iconst 0, 1) := by decide +kernel
set_option maxRecDepth 20000 in
theorem dX11_mean_56 : decode cX11_mean 56 = .ok (.istore 6, 2) := by decide +kernel
set_option maxRecDepth 20000 in
theorem dX11_mean_58 : decode cX11_mean 58 = .ok (.iload 6, 2) := by decide +kernel
set_option maxRecDepth 20000 in
theorem dX11_mean_60 : decode cX11_mean 60 = .ok (.iconst 1, 1) := by decide +kernel
set_option maxRecDepth 20000 in
theorem dX11_mean_61 : decode cX11_mean 61 = .ok (.aload_n 0, 1) := by decide +kernel
set_option maxRecDepth 20000 in
theorem dX11_mean_62 : decode cX11_mean 62 = .ok (.getfield 7, 3) := by decide +kernel
set_option maxRecDepth 20000 in
theorem dX11_mean_65 : decode cX11_mean 65 = .ok (.iconst 3, 1) := by decide +kernel
set_option maxRecDepth 20000 in
theorem dX11_mean_66 : decode cX11_mean 66 = .ok (.iaload, 1) := by decide +kernel
set_option maxRecDepth 20000 in
theorem dX11_mean_67 : decode cX11_mean 67 = .ok (.ishl, 1) := by decide +kernel
set_option maxRecDepth 20000 in
theorem dX11_mean_68 : decode cX11_mean 68 = .ok (.if_icmp .ge 74, 3) := by decide +kernel
set_option maxRecDepth 20000 in
theorem dX11_mean_71 : decode cX11_mean 71 = .ok (.lconst 1, 1) := by decide +kernel
set_option maxRecDepth 20000 in
theorem dX11_mean_72 : decode cX11_mean 72 = .ok (.lstore 7, 2) := by decide +kernel
set_option maxRecDepth 20000 in
theorem dX11_mean_74 : decode cX11_mean 74 = .ok (.iconst 0, 1) := by decide +kernel
set_option maxRecDepth 20000 in
theorem dX11_mean_75 : decode cX11_mean 75 = .ok (.istore 9, 2) := by decide +kernel
set_option maxRecDepth 20000 in
theorem dX11_mean_77 : decode cX11_mean 77 = .ok (.iload 9, 2) := by decide +kernel
set_option maxRecDepth 20000 in
theorem dX11_mean_79 : decode cX11_mean 79 = .ok (.aload_n 0, 1) := by decide +kernel
set_option maxRecDepth 20000 in
theorem dX11_mean_80 : decode cX11_mean 80 = .ok (.getfield 7, 3) := by decide +kernel
set_option maxRecDepth 20000 in
theorem dX11_mean_83 : decode cX11_mean 83 = .ok (.iconst 3, 1) := by decide +kernel
set_option maxRecDepth 20000 in
theorem dX11_mean_84 : decode cX11_mean 84 = .ok (.iaload, 1) := by decide +kernel
set_option maxRecDepth 20000 in
theorem dX11_mean_85 : decode cX11_mean 85 = .ok (.if_icmp .ge 34, 3) := by decide +kernel
set_option maxRecDepth 20000 in
theorem dX11_mean_88 : decode cX11_mean 88 = .ok (.lload 7, 2) := by decide +kernel
set_option maxRecDepth 20000 in
theorem dX11_mean_90 : decode cX11_mean 90 = .ok (.iload 6, 2) := by decide +kernel
set_option maxRecDepth 20000 in
theorem dX11_mean_92 : decode cX11_mean 92 = .ok (.iload 9, 2) := by decide +kernel
set_option maxRecDepth 20000 in
theorem dX11_mean_94 : decode cX11_mean 94 = .ok (.invokestatic 183, 3) := by decide +kernel
set_option maxRecDepth 20000 in
theorem dX11_mean_97 : decode cX11_mean 97 = .ok (.ifCond .eq 8, 3) := by decide +kernel
set_option maxRecDepth 20000 in
theorem dX11_mean_100 : decode cX11_mean 100 = .ok (.iload_n 1, 1) := by decide +kernel
set_option maxRecDepth 20000 in
theorem dX11_mean_101 : decode cX11_mean 101 = .ok (.i2l, 1) := by decide +kernel
set_option maxRecDepth 20000 in
theorem dX11_mean_102 : decode cX11_mean 102 = .ok (.goto 8, 3) := by decide +kernel
set_option maxRecDepth 20000 in
theorem dX11_mean_105 : decode cX11_mean 105 = .ok (.bipush 10, 2) := by decide +kernel
set_option maxRecDepth 20000 in
theorem dX11_mean_107 : decode cX11_mean 107 = .ok (.iload_n 1, 1) := by decide +kernel
set_option maxRecDepth 20000 in
theorem dX11_mean_108 : decode cX11_mean 108 = .ok (.isub, 1) := by decide +kernel
set_option maxRecDepth 20000 in
theorem dX11_mean_109 : decode cX11_mean 109 = .ok (.i2l, 1) := by decide +kernel
set_option maxRecDepth 20000 in
theorem dX11_mean_110 : decode cX11_mean 110 = .ok (.lmul, 1) := by decide +kernel
set_option maxRecDepth 20000 in
theorem dX11_mean_111 : decode cX11_mean 111 = .ok (.lstore 7, 2) := by decide +kernel
set_option maxRecDepth 20000 in
theorem dX11_mean_113 : decode cX11_mean 113 = .ok (.iinc 9 1, 3) := by decide +kernel
set_option maxRecDepth 20000 in
theorem dX11_mean_116 : decode cX11_mean 116 = .ok (.goto (-39), 3) := by decide +kernel
set_option maxRecDepth 20000 in
theorem dX11_mean_119 : decode cX11_mean 119 = .ok (.aload_n 0, 1) := by decide +kernel
set_option maxRecDepth 20000 in
theorem dX11_mean_120 : decode cX11_mean 120 = .ok (.iload 6, 2) := by decide +kernel
set_option maxRecDepth 20000 in
theorem dX11_mean_122 : decode cX11_mean 122 = .ok (.invokevirtual 189, 3) := by decide +kernel
set_option maxRecDepth 20000 in
theorem dX11_mean_125 : decode cX11_mean 125 = .ok (.lload_n 2, 1) := by decide +kernel
set_option maxRecDepth 20000 in
theorem dX11_mean_126 : decode cX11_mean 126 = .ok (.lload 7, 2) := by decide +kernel
set_option maxRecDepth 20000 in
theorem dX11_mean_128 : decode cX11_mean 128 = .ok (.aload_n 0, 1) := by decide +kernel
set_option maxRecDepth 20000 in
theorem dX11_mean_129 : decode cX11_mean 129 = .ok (.getfield 177, 3) := by decide +kernel
set_option maxRecDepth 20000 in
theorem dX11_mean_132 : decode cX11_mean 132 = .ok (.i2l, 1) := by decide +kernel
set_option maxRecDepth 20000 in
theorem dX11_mean_133 : decode cX11_mean 133 = .ok (.lmul, 1) := by decide +kernel
set_option maxRecDepth 20000 in
theorem dX11_mean_134 : decode cX11_mean 134 = .ok (.ladd, 1) := by decide +kernel
set_option maxRecDepth 20000 in
theorem dX11_mean_135 : decode cX11_mean 135 = .ok (.lstore_n 2, 1) := by decide +kernel
set_option maxRecDepth 20000 in
theorem dX11_mean_136 : decode cX11_mean 136 = .ok (.iinc 6 1, 3) := by decide +kernel
set_option maxRecDepth 20000 in
theorem dX11_mean_139 : decode cX11_mean 139 = .ok (.goto (-81), 3) := by decide +kernel
set_option maxRecDepth 20000 in
theorem dX11_mean_142 : decode cX11_mean 142 = .ok (.aload_n 0, 1) := by decide +kernel
set_option maxRecDepth 20000 in
theorem dX11_mean_143 : decode cX11_mean 143 = .ok (.lload_n 2, 1) := by decide +kernel
set_option maxRecDepth 20000 in
theorem dX11_mean_144 : decode cX11_mean 144 = .ok (.lload 4, 2) := by decide +kernel
set_option maxRecDepth 20000 in
theorem dX11_mean_146 : decode cX11_mean 146 = .ok (.invokevirtual 228, 3) := by decide +kernel
set_option maxRecDepth 20000 in
theorem dX11_mean_149 : decode cX11_mean 149 = .ok (.iconst 1, 1) := by decide +kernel
set_option maxRecDepth 20000 in
theorem dX11_mean_150 : decode cX11_mean 150 = .ok (.ireturn, 1) := by decide +kernel
set_option maxRecDepth 20000 in
theorem dX11_shout_0 : decode cX11_shout 0 = .ok (.iload_n 1, 1) := by decide +kernel
set_option maxRecDepth 20000 in
theorem dX11_shout_1 : decode cX11_shout 1 = .ok (.invokestatic 69, 3) := by decide +kernel
set_option maxRecDepth 20000 in
theorem dX11_shout_4 : decode cX11_shout 4 = .ok (.ifCond .ne 11, 3) := by decide +kernel
set_option maxRecDepth 20000 in
theorem dX11_shout_7 : decode cX11_shout 7 = .ok (.aload_n 0, 1) := by decide +kernel
set_option maxRecDepth 20000 in
theorem dX11_shout_8 : decode cX11_shout 8 = .ok (.sipush (-10000), 3) := by decide +kernel
set_option maxRecDepth 20000 in
theorem dX11_shout_11 : decode cX11_shout 11 = .ok (.invokevirtual 220, 3) := by decide +kernel
set_option maxRecDepth 20000 in
theorem dX11_shout_14 : decode cX11_shout 14 = .ok (.ireturn, 1) := by decide +kernel
set_option maxRecDepth 20000 in
theorem dX11_shout_15 : decode cX11_shout 15 = .ok (.aload_n 0, 1) := by decide +kernel
set_option maxRecDepth 20000 in
theorem dX11_shout_16 : decode cX11_shout 16 = .ok (.invokevirtual 199, 3) := by decide +kernel
set_option maxRecDepth 20000 in
theorem dX11_shout_19 : decode cX11_shout 19 = .ok (.aload_n 0, 1) := by decide +kernel
set_option maxRecDepth 20000 in
theorem dX11_shout_20 : decode cX11_shout 20 = .ok (.getfield 177, 3) := by decide +kernel
set_option maxRecDepth 20000 in
theorem dX11_shout_23 : decode cX11_shout 23 = .ok (.istore_n 2, 1) := by decide +kernel
set_option maxRecDepth 20000 in
theorem dX11_shout_24 : decode cX11_shout 24 = .ok (.aload_n 0, 1) := by decide +kernel
set_option maxRecDepth 20000 in
theorem dX11_shout_25 : decode cX11_shout 25 = .ok (.iload_n 1, 1) := by decide +kernel
set_option maxRecDepth 20000 in
theorem dX11_shout_26 : decode cX11_shout 26 = .ok (.putfield 162, 3) := by decide +kernel
set_option maxRecDepth 20000 in
theorem dX11_shout_29 : decode cX11_shout 29 = .ok (.aload_n 0, 1) := by decide +kernel
set_option maxRecDepth 20000 in
theorem dX11_shout_30 : decode cX11_shout 30 = .ok (.sipush 255, 3) := by decide +kernel
set_option maxRecDepth 20000 in
theorem dX11_shout_33 : decode cX11_shout 33 = .ok (.invokevirtual 189, 3) := by decide +kernel
set_option maxRecDepth 20000 in
theorem dX11_shout_36 : decode cX11_shout 36 = .ok (.aload_n 0, 1) := by decide +kernel
set_option maxRecDepth 20000 in
theorem dX11_shout_37 : decode cX11_shout 37 = .ok (.iconst (-1), 1) := by decide +kernel
set_option maxRecDepth 20000 in
theorem dX11_shout_38 : decode cX11_shout 38 = .ok (.putfield 162, 3) := by decide +kernel
set_option maxRecDepth 20000 in
theorem dX11_shout_41 : decode cX11_shout 41 = .ok (.aload_n 0, 1) := by decide +kernel
set_option maxRecDepth 20000 in
theorem dX11_shout_42 : decode cX11_shout 42 = .ok (.getfield 177, 3) := by decide +kernel
set_option maxRecDepth 20000 in
theorem dX11_shout_45 : decode cX11_shout 45 = .ok (.iload_n 2, 1) := by decide +kernel
set_option maxRecDepth 20000 in
theorem dX11_shout_46 : decode cX11_shout 46 = .ok (.isub, 1) := by decide +kernel
set_option maxRecDepth 20000 in
theorem dX11_shout_47 : decode cX11_shout 47 = .ok (.ireturn, 1) := by decide +kernel
set_option maxRecDepth 20000 in
theorem dX11_sold_0 : decode cX11_sold 0 = .ok (.iload_n 1, 1) := by decide +kernel
set_option maxRecDepth 20000 in
theorem dX11_sold_1 : decode cX11_sold 1 = .ok (.invokestatic 69, 3) := by decide +kernel
set_option maxRecDepth 20000 in
theorem dX11_sold_4 : decode cX11_sold 4 = .ok (.ifCond .eq 10, 3) := by decide +kernel
set_option maxRecDepth 20000 in
theorem dX11_sold_7 : decode cX11_sold 7 = .ok (.iload_n 2, 1) := by decide +kernel
set_option maxRecDepth 20000 in
theorem dX11_sold_8 : decode cX11_sold 8 = .ok (.invokestatic 57, 3) := by decide +kernel
set_option maxRecDepth 20000 in
theorem dX11_sold_11 : decode cX11_sold 11 = .ok (.ifCond .ne 8, 3) := by decide +kernel
set_option maxRecDepth 20000 in
theorem dX11_sold_14 : decode cX11_sold 14 = .ok (.aload_n 0, 1) := by decide +kernel
set_option maxRecDepth 20000 in
theorem dX11_sold_15 : decode cX11_sold 15 = .ok (.invokevirtual 61, 3) := by decide +kernel
set_option maxRecDepth 20000 in
theorem dX11_sold_18 : decode cX11_sold 18 = .ok (.ireturn, 1) := by decide +kernel
set_option maxRecDepth 20000 in
theorem dX11_sold_19 : decode cX11_sold 19 = .ok (.aload_n 0, 1) := by decide +kernel
set_option maxRecDepth 20000 in
theorem dX11_sold_20 : decode cX11_sold 20 = .ok (.getfield 7, 3) := by decide +kernel
set_option maxRecDepth 20000 in
theorem dX11_sold_23 : decode cX11_sold 23 = .ok (.bipush 6, 2) := by decide +kernel
set_option maxRecDepth 20000 in
theorem dX11_sold_25 : decode cX11_sold 25 = .ok (.iaload, 1) := by decide +kernel
set_option maxRecDepth 20000 in
theorem dX11_sold_26 : decode cX11_sold 26 = .ok (.bipush 6, 2) := by decide +kernel
set_option maxRecDepth 20000 in
theorem dX11_sold_28 : decode cX11_sold 28 = .ok (.if_icmp .ne 8, 3) := by decide +kernel
set_option maxRecDepth 20000 in
theorem dX11_sold_31 : decode cX11_sold 31 = .ok (.aload_n 0, 1) := by decide +kernel
set_option maxRecDepth 20000 in
theorem dX11_sold_32 : decode cX11_sold 32 = .ok (.invokevirtual 81, 3) := by decide +kernel
set_option maxRecDepth 20000 in
theorem dX11_sold_35 : decode cX11_sold 35 = .ok (.ireturn, 1) := by decide +kernel
set_option maxRecDepth 20000 in
theorem dX11_sold_36 : decode cX11_sold 36 = .ok (.aload_n 0, 1) := by decide +kernel
set_option maxRecDepth 20000 in
theorem dX11_sold_37 : decode cX11_sold 37 = .ok (.getfield 7, 3) := by decide +kernel
set_option maxRecDepth 20000 in
theorem dX11_sold_40 : decode cX11_sold 40 = .ok (.bipush 60, 2) := by decide +kernel
set_option maxRecDepth 20000 in
theorem dX11_sold_42 : decode cX11_sold 42 = .ok (.aload_n 0, 1) := by decide +kernel
set_option maxRecDepth 20000 in
theorem dX11_sold_43 : decode cX11_sold 43 = .ok (.getfield 7, 3) := by decide +kernel
set_option maxRecDepth 20000 in
theorem dX11_sold_46 : decode cX11_sold 46 = .ok (.bipush 6, 2) := by decide +kernel
set_option maxRecDepth 20000 in
theorem dX11_sold_48 : decode cX11_sold 48 = .ok (.iaload, 1) := by decide +kernel
set_option maxRecDepth 20000 in
theorem dX11_sold_49 : decode cX11_sold 49 = .ok (.iadd, 1) := by decide +kernel
set_option maxRecDepth 20000 in
theorem dX11_sold_50 : decode cX11_sold 50 = .ok (.iload_n 1, 1) := by decide +kernel
set_option maxRecDepth 20000 in
theorem dX11_sold_51 : decode cX11_sold 51 = .ok (.iastore, 1) := by decide +kernel
set_option maxRecDepth 20000 in
theorem dX11_sold_52 : decode cX11_sold 52 = .ok (.aload_n 0, 1) := by decide +kernel
set_option maxRecDepth 20000 in
theorem dX11_sold_53 : decode cX11_sold 53 = .ok (.getfield 7, 3) := by decide +kernel
set_option maxRecDepth 20000 in
theorem dX11_sold_56 : decode cX11_sold 56 = .ok (.bipush 66, 2) := by decide +kernel
set_option maxRecDepth 20000 in
theorem dX11_sold_58 : decode cX11_sold 58 = .ok (.aload_n 0, 1) := by decide +kernel
set_option maxRecDepth 20000 in
theorem dX11_sold_59 : decode cX11_sold 59 = .ok (.getfield 7, 3) := by decide +kernel
set_option maxRecDepth 20000 in
theorem dX11_sold_62 : decode cX11_sold 62 = .ok (.bipush 6, 2) := by decide +kernel
set_option maxRecDepth 20000 in
theorem dX11_sold_64 : decode cX11_sold 64 = .ok (.iaload, 1) := by decide +kernel
set_option maxRecDepth 20000 in
theorem dX11_sold_65 : decode cX11_sold 65 = .ok (.iadd, 1) := by decide +kernel
set_option maxRecDepth 20000 in
theorem dX11_sold_66 : decode cX11_sold 66 = .ok (.iload_n 2, 1) := by decide +kernel
set_option maxRecDepth 20000 in
theorem dX11_sold_67 : decode cX11_sold 67 = .ok (.iastore, 1) := by decide +kernel
set_option maxRecDepth 20000 in
theorem dX11_sold_68 : decode cX11_sold 68 = .ok (.aload_n 0, 1) := by decide +kernel
set_option maxRecDepth 20000 in
theorem dX11_sold_69 : decode cX11_sold 69 = .ok (.getfield 7, 3) := by decide +kernel
set_option maxRecDepth 20000 in
theorem dX11_sold_72 : decode cX11_sold 72 = .ok (.bipush 6, 2) := by decide +kernel
set_option maxRecDepth 20000 in
theorem dX11_sold_74 : decode cX11_sold 74 = .ok (.dup2, 1) := by decide +kernel
set_option maxRecDepth 20000 in
theorem dX11_sold_75 : decode cX11_sold 75 = .ok (.iaload, 1) := by decide +kernel
set_option maxRecDepth 20000 in
theorem dX11_sold_76 : decode cX11_sold 76 = .ok (.iconst 1, 1) := by decide +kernel
set_option maxRecDepth 20000 in
theorem dX11_sold_77 : decode cX11_sold 77 = .ok (.iadd, 1) := by decide +kernel
set_option maxRecDepth 20000 in
theorem dX11_sold_78 : decode cX11_sold 78 = .ok (.iastore, 1) := by decide +kernel
set_option maxRecDepth 20000 in
theorem dX11_sold_79 : decode cX11_sold 79 = .ok (.aload_n 0, 1) := by decide +kernel
set_option maxRecDepth 20000 in
theorem dX11_sold_80 : decode cX11_sold 80 = .ok (.getfield 7, 3) := by decide +kernel
set_option maxRecDepth 20000 in
theorem dX11_sold_83 : decode cX11_sold 83 = .ok (.bipush 6, 2) := by decide +kernel
set_option maxRecDepth 20000 in
theorem dX11_sold_85 : decode cX11_sold 85 = .ok (.iaload, 1) := by decide +kernel
set_option maxRecDepth 20000 in
theorem dX11_sold_86 : decode cX11_sold 86 = .ok (.ireturn, 1) := by decide +kernel
set_option maxRecDepth 20000 in
theorem dX11_forget_0 : decode cX11_forget 0 = .ok (.aload_n 0, 1) := by decide +kernel
set_option maxRecDepth 20000 in
theorem dX11_forget_1 : decode cX11_forget 1 = .ok (.bipush 6, 2) := by decide +kernel
set_option maxRecDepth 20000 in
theorem dX11_forget_3 : decode cX11_forget 3 = .ok (.iconst 0, 1) := by decide +kernel
set_option maxRecDepth 20000 in
theorem dX11_forget_4 : decode cX11_forget 4 = .ok (.invokevirtual 65, 3) := by decide +kernel
set_option maxRecDepth 20000 in
theorem dX11_forget_7 : decode cX11_forget 7 = .ok (.ireturn, 1) := by decide +kernel
set_option maxRecDepth 20000 in
theorem dX11_may_0 : decode cX11_may 0 = .ok (.aload_n 0, 1) := by decide +kernel
set_option maxRecDepth 20000 in
theorem dX11_may_1 : decode cX11_may 1 = .ok (.iload_n 1, 1) := by decide +kernel
set_option maxRecDepth 20000 in
theorem dX11_may_2 : decode cX11_may 2 = .ok (.invokevirtual 208, 3) := by decide +kernel
set_option maxRecDepth 20000 in
theorem dX11_may_5 : decode cX11_may 5 = .ok (.ifCond .ne 8, 3) := by decide +kernel
set_option maxRecDepth 20000 in
theorem dX11_may_8 : decode cX11_may 8 = .ok (.aload_n 0, 1) := by decide +kernel
set_option maxRecDepth 20000 in
theorem dX11_may_9 : decode cX11_may 9 = .ok (.invokevirtual 61, 3) := by decide +kernel
set_option maxRecDepth 20000 in
theorem dX11_may_12 : decode cX11_may 12 = .ok (.ireturn, 1) := by decide +kernel
set_option maxRecDepth 20000 in
theorem dX11_may_13 : decode cX11_may 13 = .ok (.aload_n 0, 1) := by decide +kernel
set_option maxRecDepth 20000 in
theorem dX11_may_14 : decode cX11_may 14 = .ok (.getfield 7, 3) := by decide +kernel
set_option maxRecDepth 20000 in
theorem dX11_may_17 : decode cX11_may 17 = .ok (.bipush 28, 2) := by decide +kernel
set_option maxRecDepth 20000 in
theorem dX11_may_19 : decode cX11_may 19 = .ok (.iload_n 1, 1) := by decide +kernel
set_option maxRecDepth 20000 in
theorem dX11_may_20 : decode cX11_may 20 = .ok (.iadd, 1) := by decide +kernel
set_option maxRecDepth 20000 in
theorem dX11_may_21 : decode cX11_may 21 = .ok (.iaload, 1) := by decide +kernel
set_option maxRecDepth 20000 in
theorem dX11_may_22 : decode cX11_may 22 = .ok (.istore_n 2, 1) := by decide +kernel
set_option maxRecDepth 20000 in
theorem dX11_may_23 : decode cX11_may 23 = .ok (.iconst 0, 1) := by decide +kernel
set_option maxRecDepth 20000 in
theorem dX11_may_24 : decode cX11_may 24 = .ok (.istore_n 3, 1) := by decide +kernel
set_option maxRecDepth 20000 in
theorem dX11_may_25 : decode cX11_may 25 = .ok (.iconst 0, 1) := by decide +kernel
set_option maxRecDepth 20000 in
theorem dX11_may_26 : decode cX11_may 26 = .ok (.istore 4, 2) := by decide +kernel
set_option maxRecDepth 20000 in
theorem dX11_may_28 : decode cX11_may 28 = .ok (.iload 4, 2) := by decide +kernel
set_option maxRecDepth 20000 in
theorem dX11_may_30 : decode cX11_may 30 = .ok (.iconst 5, 1) := by decide +kernel
set_option maxRecDepth 20000 in
theorem dX11_may_31 : decode cX11_may 31 = .ok (.if_icmp .gt 104, 3) := by decide +kernel
set_option maxRecDepth 20000 in
theorem dX11_may_34 : decode cX11_may 34 = .ok (.aload_n 0, 1) := by decide +kernel
set_option maxRecDepth 20000 in
theorem dX11_may_35 : decode cX11_may 35 = .ok (.getfield 7, 3) := by decide +kernel
set_option maxRecDepth 20000 in
theorem dX11_may_38 : decode cX11_may 38 = .ok (.bipush 28, 2) := by decide +kernel
set_option maxRecDepth 20000 in
theorem dX11_may_40 : decode cX11_may 40 = .ok (.iload_n 1, 1) := by decide +kernel
set_option maxRecDepth 20000 in
theorem dX11_may_41 : decode cX11_may 41 = .ok (.iadd, 1) := by decide +kernel
set_option maxRecDepth 20000 in
theorem dX11_may_42 : decode cX11_may 42 = .ok (.iload 4, 2) := by decide +kernel
set_option maxRecDepth 20000 in
theorem dX11_may_44 : decode cX11_may 44 = .ok (.iastore, 1) := by decide +kernel
set_option maxRecDepth 20000 in
theorem dX11_may_45 : decode cX11_may 45 = .ok (.aload_n 0, 1) := by decide +kernel
set_option maxRecDepth 20000 in
theorem dX11_may_46 : decode cX11_may 46 = .ok (.invokevirtual 199, 3) := by decide +kernel
set_option maxRecDepth 20000 in
theorem dX11_may_49 : decode cX11_may 49 = .ok (.iconst 1, 1) := by decide +kernel
set_option maxRecDepth 20000 in
theorem dX11_may_50 : decode cX11_may 50 = .ok (.istore 5, 2) := by decide +kernel
set_option maxRecDepth 20000 in
theorem dX11_may_52 : decode cX11_may 52 = .ok (.iconst 0, 1) := by decide +kernel
set_option maxRecDepth 20000 in
theorem dX11_may_53 : decode cX11_may 53 = .ok (.istore 6, 2) := by decide +kernel
set_option maxRecDepth 20000 in
theorem dX11_may_55 : decode cX11_may 55 = .ok (.iload 6, 2) := by decide +kernel
set_option maxRecDepth 20000 in
theorem dX11_may_57 : decode cX11_may 57 = .ok (.aload_n 0, 1) := by decide +kernel
set_option maxRecDepth 20000 in
theorem dX11_may_58 : decode cX11_may 58 = .ok (.getfield 7, 3) := by decide +kernel
set_option maxRecDepth 20000 in
theorem dX11_may_61 : decode cX11_may 61 = .ok (.bipush 6, 2) := by decide +kernel
set_option maxRecDepth 20000 in
theorem dX11_may_63 : decode cX11_may 63 = .ok (.iaload, 1) := by decide +kernel
set_option maxRecDepth 20000 in
theorem dX11_may_64 : decode cX11_may 64 = .ok (.if_icmp .ge 49, 3) := by decide +kernel
set_option maxRecDepth 20000 in
theorem dX11_may_67 : decode cX11_may 67 = .ok (.iload 5, 2) := by decide +kernel
set_option maxRecDepth 20000 in
theorem dX11_may_69 : decode cX11_may 69 = .ok (.ifCond .eq 35, 3) := by decide +kernel
set_option maxRecDepth 20000 in
theorem dX11_may_72 : decode cX11_may 72 = .ok (.aload_n 0, 1) := by decide +kernel
set_option maxRecDepth 20000 in
theorem dX11_may_73 : decode cX11_may 73 = .ok (.getfield 33, 3) := by decide +kernel
set_option maxRecDepth 20000 in
theorem dX11_may_76 : decode cX11_may 76 = .ok (.aload_n 0, 1) := by decide +kernel
set_option maxRecDepth 20000 in
theorem dX11_may_77 : decode cX11_may 77 = .ok (.getfield 7, 3) := by decide +kernel
set_option maxRecDepth 20000 in
theorem dX11_may_80 : decode cX11_may 80 = .ok (.bipush 60, 2) := by decide +kernel
set_option maxRecDepth 20000 in
theorem dX11_may_82 : decode cX11_may 82 = .ok (.iload 6, 2) := by decide +kernel
set_option maxRecDepth 20000 in
theorem dX11_may_84 : decode cX11_may 84 = .ok (.iadd, 1) := by decide +kernel
set_option maxRecDepth 20000 in
theorem dX11_may_85 : decode cX11_may 85 = .ok (.iaload, 1) := by decide +kernel
set_option maxRecDepth 20000 in
theorem dX11_may_86 : decode cX11_may 86 = .ok (.iaload, 1) := by decide +kernel
set_option maxRecDepth 20000 in
theorem dX11_may_87 : decode cX11_may 87 = .ok (.aload_n 0, 1) := by decide +kernel
set_option maxRecDepth 20000 in
theorem dX11_may_88 : decode cX11_may 88 = .ok (.getfield 7, 3) := by decide +kernel
set_option maxRecDepth 20000 in
theorem dX11_may_91 : decode cX11_may 91 = .ok (.bipush 66, 2) := by decide +kernel
set_option maxRecDepth 20000 in
theorem dX11_may_93 : decode cX11_may 93 = .ok (.iload 6, 2) := by decide +kernel
set_option maxRecDepth 20000 in
theorem dX11_may_95 : decode cX11_may 95 = .ok (.iadd, 1) := by decide +kernel
set_option maxRecDepth 20000 in
theorem dX11_may_96 : decode cX11_may 96 = .ok (.iaload, 1) := by decide +kernel
set_option maxRecDepth 20000 in
theorem dX11_may_97 : decode cX11_may 97 = .ok (.if_icmp .ne 7, 3) := by decide +kernel
set_option maxRecDepth 20000 in
theorem dX11_may_100 : decode cX11_may 100 = .ok (.iconst 1, 1) := by decide +kernel
set_option maxRecDepth 20000 in
theorem dX11_may_101 : decode cX11_may 101 = .ok (.goto 4, 3) := by decide +kernel
set_option maxRecDepth 20000 in
theorem dX11_may_104 : decode cX11_may 104 = .ok (.iconst 0, 1) := by decide +kernel
set_option maxRecDepth 20000 in
theorem dX11_may_105 : decode cX11_may 105 = .ok (.istore 5, 2) := by decide +kernel
set_option maxRecDepth 20000 in
theorem dX11_may_107 : decode cX11_may 107 = .ok (.iinc 6 1, 3) := by decide +kernel
set_option maxRecDepth 20000 in
theorem dX11_may_110 : decode cX11_may 110 = .ok (.goto (-55), 3) := by decide +kernel
set_option maxRecDepth 20000 in
theorem dX11_may_113 : decode cX11_may 113 = .ok (.iload_n 3, 1) := by decide +kernel
set_option maxRecDepth 20000 in
theorem dX11_may_114 : decode cX11_may 114 = .ok (.iload 5, 2) := by decide +kernel
set_option maxRecDepth 20000 in
theorem dX11_may_116 : decode cX11_may 116 = .ok (.ifCond .eq 10, 3) := by decide +kernel
set_option maxRecDepth 20000 in
theorem dX11_may_119 : decode cX11_may 119 = .ok (.iconst 1, 1) := by decide +kernel
set_option maxRecDepth 20000 in
theorem dX11_may_120 : decode cX11_may 120 = .ok (.iload 4, 2) := by decide +kernel
set_option maxRecDepth 20000 in
theorem dX11_may_122 : decode cX11_may 122 = .ok (.ishl, 1) := by decide +kernel
set_option maxRecDepth 20000 in
theorem dX11_may_123 : decode cX11_may 123 = .ok (.goto 4, 3) := by decide +kernel
set_option maxRecDepth 20000 in
theorem dX11_may_126 : decode cX11_may 126 = .ok (.iconst 0, 1) := by decide +kernel
set_option maxRecDepth 20000 in
theorem dX11_may_127 : decode cX11_may 127 = .ok (.ior, 1) := by decide +kernel
set_option maxRecDepth 20000 in
theorem dX11_may_128 : decode cX11_may 128 = .ok (.istore_n 3, 1) := by decide +kernel
set_option maxRecDepth 20000 in
theorem dX11_may_129 : decode cX11_may 129 = .ok (.iinc 4 1, 3) := by decide +kernel
set_option maxRecDepth 20000 in
theorem dX11_may_132 : decode cX11_may 132 = .ok (.goto (-104), 3) := by decide +kernel
set_option maxRecDepth 20000 in
theorem dX11_may_135 : decode cX11_may 135 = .ok (.aload_n 0, 1) := by decide +kernel
set_option maxRecDepth 20000 in
theorem dX11_may_136 : decode cX11_may 136 = .ok (.getfield 7, 3) := by decide +kernel
set_option maxRecDepth 20000 in
theorem dX11_may_139 : decode cX11_may 139 = .ok (.bipush 28, 2) := by decide +kernel
set_option maxRecDepth 20000 in
theorem dX11_may_141 : decode cX11_may 141 = .ok (.iload_n 1, 1) := by decide +kernel
set_option maxRecDepth 20000 in
theorem dX11_may_142 : decode cX11_may 142 = .ok (.iadd, 1) := by decide +kernel
set_option maxRecDepth 20000 in
theorem dX11_may_143 : decode cX11_may 143 = .ok (.iload_n 2, 1) := by decide +kernel
set_option maxRecDepth 20000 in
theorem dX11_may_144 : decode cX11_may 144 = .ok (.iastore, 1) := by decide +kernel
set_option maxRecDepth 20000 in
theorem dX11_may_145 : decode cX11_may 145 = .ok (.iload_n 3, 1) := by decide +kernel
set_option maxRecDepth 20000 in
theorem dX11_may_146 : decode cX11_may 146 = .ok (.ireturn, 1) := by decide +kernel
set_option maxRecDepth 20000 in
theorem dX11_drawn_0 : decode cX11_drawn 0 = .ok (.iload_n 1, 1) := by decide +kernel
set_option maxRecDepth 20000 in
theorem dX11_drawn_1 : decode cX11_drawn 1 = .ok (.i2l, 1) := by decide +kernel
set_option maxRecDepth 20000 in
theorem dX11_drawn_2 : decode cX11_drawn 2 = .ok (.lconst 0, 1) := by decide +kernel
set_option maxRecDepth 20000 in
theorem dX11_drawn_3 : decode cX11_drawn 3 = .ok (.ldc2_w 232, 3) := by decide +kernel
set_option maxRecDepth 20000 in
theorem dX11_drawn_6 : decode cX11_drawn 6 = .ok (.invokestatic 51, 3) := by decide +kernel
set_option maxRecDepth 20000 in
theorem dX11_drawn_9 : decode cX11_drawn 9 = .ok (.ifCond .eq 27, 3) := by decide +kernel
set_option maxRecDepth 20000 in
theorem dX11_drawn_12 : decode cX11_drawn 12 = .ok (.iload_n 2, 1) := by decide +kernel
set_option maxRecDepth 20000 in
theorem dX11_drawn_13 : decode cX11_drawn 13 = .ok (.i2l, 1) := by decide +kernel
set_option maxRecDepth 20000 in
theorem dX11_drawn_14 : decode cX11_drawn 14 = .ok (.lconst 0, 1) := by decide +kernel
set_option maxRecDepth 20000 in
theorem dX11_drawn_15 : decode cX11_drawn 15 = .ok (.ldc2_w 234, 3) := by decide +kernel
set_option maxRecDepth 20000 in
theorem dX11_drawn_18 : decode cX11_drawn 18 = .ok (.invokestatic 51, 3) := by decide +kernel
set_option maxRecDepth 20000 in
theorem dX11_drawn_21 : decode cX11_drawn 21 = .ok (.ifCond .eq 15, 3) := by decide +kernel
set_option maxRecDepth 20000 in
theorem dX11_drawn_24 : decode cX11_drawn 24 = .ok (.iload_n 3, 1) := by decide +kernel
set_option maxRecDepth 20000 in
theorem dX11_drawn_25 : decode cX11_drawn 25 = .ok (.i2l, 1) := by decide +kernel
set_option maxRecDepth 20000 in
theorem dX11_drawn_26 : decode cX11_drawn 26 = .ok (.lconst 0, 1) := by decide +kernel
set_option maxRecDepth 20000 in
theorem dX11_drawn_27 : decode cX11_drawn 27 = .ok (.ldc2_w 236, 3) := by decide +kernel
set_option maxRecDepth 20000 in
theorem dX11_drawn_30 : decode cX11_drawn 30 = .ok (.invokestatic 51, 3) := by decide +kernel
set_option maxRecDepth 20000 in
theorem dX11_drawn_33 : decode cX11_drawn 33 = .ok (.ifCond .ne 8, 3) := by decide +kernel
set_option maxRecDepth 20000 in
theorem dX11_drawn_36 : decode cX11_drawn 36 = .ok (.aload_n 0, 1) := by decide +kernel
set_option maxRecDepth 20000 in
theorem dX11_drawn_37 : decode cX11_drawn 37 = .ok (.invokevirtual 61, 3) := by decide +kernel
set_option maxRecDepth 20000 in
theorem dX11_drawn_40 : decode cX11_drawn 40 = .ok (.ireturn, 1) := by decide +kernel
set_option maxRecDepth 20000 in
theorem dX11_drawn_41 : decode cX11_drawn 41 = .ok (.aload_n 0, 1) := by decide +kernel
set_option maxRecDepth 20000 in
theorem dX11_drawn_42 : decode cX11_drawn 42 = .ok (.iconst (-1), 1) := by decide +kernel
set_option maxRecDepth 20000 in
theorem dX11_drawn_43 : decode cX11_drawn 43 = .ok (.putfield 162, 3) := by decide +kernel
set_option maxRecDepth 20000 in
theorem dX11_drawn_46 : decode cX11_drawn 46 = .ok (.iload_n 1, 1) := by decide +kernel
set_option maxRecDepth 20000 in
theorem dX11_drawn_47 : decode cX11_drawn 47 = .ok (.i2l, 1) := by decide +kernel
set_option maxRecDepth 20000 in
theorem dX11_drawn_48 : decode cX11_drawn 48 = .ok (.lstore 4, 2) := by decide +kernel
set_option maxRecDepth 20000 in
theorem dX11_drawn_50 : decode cX11_drawn 50 = .ok (.iconst 0, 1) := by decide +kernel
set_option maxRecDepth 20000 in
theorem dX11_drawn_51 : decode cX11_drawn 51 = .ok (.istore 6, 2) := by decide +kernel
set_option maxRecDepth 20000 in
theorem dX11_drawn_53 : decode cX11_drawn 53 = .ok (.iconst 0, 1) := by decide +kernel
set_option maxRecDepth 20000 in
theorem dX11_drawn_54 : decode cX11_drawn 54 = .ok (.istore 7, 2) := by decide +kernel
set_option maxRecDepth 20000 in
theorem dX11_drawn_56 : decode cX11_drawn 56 = .ok (.iload 7, 2) := by decide +kernel
set_option maxRecDepth 20000 in
theorem dX11_drawn_58 : decode cX11_drawn 58 = .ok (.iload_n 2, 1) := by decide +kernel
set_option maxRecDepth 20000 in
theorem dX11_drawn_59 : decode cX11_drawn 59 = .ok (.if_icmp .ge 92, 3) := by decide +kernel
set_option maxRecDepth 20000 in
theorem dX11_drawn_62 : decode cX11_drawn 62 = .ok (.iconst 0, 1) := by decide +kernel
set_option maxRecDepth 20000 in
theorem dX11_drawn_63 : decode cX11_drawn 63 = .ok (.istore 8, 2) := by decide +kernel
set_option maxRecDepth 20000 in
theorem dX11_drawn_65 : decode cX11_drawn 65 = .ok (.iconst 0, 1) := by decide +kernel
set_option maxRecDepth 20000 in
theorem dX11_drawn_66 : decode cX11_drawn 66 = .ok (.istore 9, 2) := by decide +kernel
set_option maxRecDepth 20000 in
theorem dX11_drawn_68 : decode cX11_drawn 68 = .ok (.iload 9, 2) := by decide +kernel
set_option maxRecDepth 20000 in
theorem dX11_drawn_70 : decode cX11_drawn 70 = .ok (.aload_n 0, 1) := by decide +kernel
set_option maxRecDepth 20000 in
theorem dX11_drawn_71 : decode cX11_drawn 71 = .ok (.getfield 7, 3) := by decide +kernel
set_option maxRecDepth 20000 in
theorem dX11_drawn_74 : decode cX11_drawn 74 = .ok (.iconst 3, 1) := by decide +kernel
set_option maxRecDepth 20000 in
theorem dX11_drawn_75 : decode cX11_drawn 75 = .ok (.iaload, 1) := by decide +kernel
set_option maxRecDepth 20000 in
theorem dX11_drawn_76 : decode cX11_drawn 76 = .ok (.if_icmp .ge 54, 3) := by decide +kernel
set_option maxRecDepth 20000 in
theorem dX11_drawn_79 : decode cX11_drawn 79 = .ok (.lload 4, 2) := by decide +kernel
set_option maxRecDepth 20000 in
theorem dX11_drawn_81 : decode cX11_drawn 81 = .ok (.ldc2_w 238, 3) := by decide +kernel
set_option maxRecDepth 20000 in
theorem dX11_drawn_84 : decode cX11_drawn 84 = .ok (.lmul, 1) := by decide +kernel
set_option maxRecDepth 20000 in
theorem dX11_drawn_85 : decode cX11_drawn 85 = .ok (.ldc2_w 240, 3) := by decide +kernel
set_option maxRecDepth 20000 in
theorem dX11_drawn_88 : decode cX11_drawn 88 = .ok (.ladd, 1) := by decide +kernel
set_option maxRecDepth 20000 in
theorem dX11_drawn_89 : decode cX11_drawn 89 = .ok (.ldc2_w 242, 3) := by decide +kernel
set_option maxRecDepth 20000 in
theorem dX11_drawn_92 : decode cX11_drawn 92 = .ok (.lrem, 1) := by decide +kernel
set_option maxRecDepth 20000 in
theorem dX11_drawn_93 : decode cX11_drawn 93 = .ok (.lstore 4, 2) := by decide +kernel
set_option maxRecDepth 20000 in
theorem dX11_drawn_95 : decode cX11_drawn 95 = .ok (.iload 8, 2) := by decide +kernel
set_option maxRecDepth 20000 in
theorem dX11_drawn_97 : decode cX11_drawn 97 = .ok (.lload 4, 2) := by decide +kernel
set_option maxRecDepth 20000 in
theorem dX11_drawn_99 : decode cX11_drawn 99 = .ok (.ldc2_w 244, 3) := by decide +kernel
set_option maxRecDepth 20000 in
theorem dX11_drawn_102 : decode cX11_drawn 102 = .ok (.ldiv, 1) := by decide +kernel
set_option maxRecDepth 20000 in
theorem dX11_drawn_103 : decode cX11_drawn 103 = .ok (.ldc2_w 236, 3) := by decide +kernel
set_option maxRecDepth 20000 in
theorem dX11_drawn_106 : decode cX11_drawn 106 = .ok (.lrem, 1) := by decide +kernel
set_option maxRecDepth 20000 in
theorem dX11_drawn_107 : decode cX11_drawn 107 = .ok (.iload_n 3, 1) := by decide +kernel
set_option maxRecDepth 20000 in
theorem dX11_drawn_108 : decode cX11_drawn 108 = .ok (.i2l, 1) := by decide +kernel
set_option maxRecDepth 20000 in
theorem dX11_drawn_109 : decode cX11_drawn 109 = .ok (.lcmp, 1) := by decide +kernel
set_option maxRecDepth 20000 in
theorem dX11_drawn_110 : decode cX11_drawn 110 = .ok (.ifCond .ge 10, 3) := by decide +kernel
set_option maxRecDepth 20000 in
theorem dX11_drawn_113 : decode cX11_drawn 113 = .ok (.iconst 1, 1) := by decide +kernel
set_option maxRecDepth 20000 in
theorem dX11_drawn_114 : decode cX11_drawn 114 = .ok (.iload 9, 2) := by decide +kernel
set_option maxRecDepth 20000 in
theorem dX11_drawn_116 : decode cX11_drawn 116 = .ok (.ishl, 1) := by decide +kernel
set_option maxRecDepth 20000 in
theorem dX11_drawn_117 : decode cX11_drawn 117 = .ok (.goto 4, 3) := by decide +kernel
set_option maxRecDepth 20000 in
theorem dX11_drawn_120 : decode cX11_drawn 120 = .ok (.iconst 0, 1) := by decide +kernel
set_option maxRecDepth 20000 in
theorem dX11_drawn_121 : decode cX11_drawn 121 = .ok (.ior, 1) := by decide +kernel
set_option maxRecDepth 20000 in
theorem dX11_drawn_122 : decode cX11_drawn 122 = .ok (.istore 8, 2) := by decide +kernel
set_option maxRecDepth 20000 in
theorem dX11_drawn_124 : decode cX11_drawn 124 = .ok (.iinc 9 1, 3) := by decide +kernel
set_option maxRecDepth 20000 in
theorem dX11_drawn_127 : decode cX11_drawn 127 = .ok (.goto (-59), 3) := by decide +kernel
set_option maxRecDepth 20000 in
theorem dX11_drawn_130 : decode cX11_drawn 130 = .ok (.aload_n 0, 1) := by decide +kernel
set_option maxRecDepth 20000 in
theorem dX11_drawn_131 : decode cX11_drawn 131 = .ok (.iload 8, 2) := by decide +kernel
set_option maxRecDepth 20000 in
theorem dX11_drawn_133 : decode cX11_drawn 133 = .ok (.invokevirtual 189, 3) := by decide +kernel
set_option maxRecDepth 20000 in
theorem dX11_drawn_136 : decode cX11_drawn 136 = .ok (.iload 6, 2) := by decide +kernel
set_option maxRecDepth 20000 in
theorem dX11_drawn_138 : decode cX11_drawn 138 = .ok (.aload_n 0, 1) := by decide +kernel
set_option maxRecDepth 20000 in
theorem dX11_drawn_139 : decode cX11_drawn 139 = .ok (.getfield 177, 3) := by decide +kernel
set_option maxRecDepth 20000 in
theorem dX11_drawn_142 : decode cX11_drawn 142 = .ok (.iadd, 1) := by decide +kernel
set_option maxRecDepth 20000 in
theorem dX11_drawn_143 : decode cX11_drawn 143 = .ok (.istore 6, 2) := by decide +kernel
set_option maxRecDepth 20000 in
theorem dX11_drawn_145 : decode cX11_drawn 145 = .ok (.iinc 7 1, 3) := by decide +kernel
set_option maxRecDepth 20000 in
theorem dX11_drawn_148 : decode cX11_drawn 148 = .ok (.goto (-92), 3) := by decide +kernel
set_option maxRecDepth 20000 in
theorem dX11_drawn_151 : decode cX11_drawn 151 = .ok (.iload 6, 2) := by decide +kernel
set_option maxRecDepth 20000 in
theorem dX11_drawn_153 : decode cX11_drawn 153 = .ok (.ireturn, 1) := by decide +kernel
set_option maxRecDepth 20000 in
theorem dX11_part_0 : decode cX11_part 0 = .ok (.iload_n 1, 1) := by decide +kernel
set_option maxRecDepth 20000 in
theorem dX11_part_1 : decode cX11_part 1 = .ok (.ifCond .ne 10, 3) := by decide +kernel
set_option maxRecDepth 20000 in
theorem dX11_part_4 : decode cX11_part 4 = .ok (.aload_n 0, 1) := by decide +kernel
set_option maxRecDepth 20000 in
theorem dX11_part_5 : decode cX11_part 5 = .ok (.getfield 223, 3) := by decide +kernel
set_option maxRecDepth 20000 in
theorem dX11_part_8 : decode cX11_part 8 = .ok (.goto 20, 3) := by decide +kernel
set_option maxRecDepth 20000 in
theorem dX11_part_11 : decode cX11_part 11 = .ok (.iload_n 1, 1) := by decide +kernel
set_option maxRecDepth 20000 in
theorem dX11_part_12 : decode cX11_part 12 = .ok (.iconst 1, 1) := by decide +kernel
set_option maxRecDepth 20000 in
theorem dX11_part_13 : decode cX11_part 13 = .ok (.if_icmp .ne 10, 3) := by decide +kernel
set_option maxRecDepth 20000 in
theorem dX11_part_16 : decode cX11_part 16 = .ok (.aload_n 0, 1) := by decide +kernel
set_option maxRecDepth 20000 in
theorem dX11_part_17 : decode cX11_part 17 = .ok (.getfield 23, 3) := by decide +kernel
set_option maxRecDepth 20000 in
theorem dX11_part_20 : decode cX11_part 20 = .ok (.goto 8, 3) := by decide +kernel
set_option maxRecDepth 20000 in
theorem dX11_part_23 : decode cX11_part 23 = .ok (.aload_n 0, 1) := by decide +kernel
set_option maxRecDepth 20000 in
theorem dX11_part_24 : decode cX11_part 24 = .ok (.invokevirtual 61, 3) := by decide +kernel
set_option maxRecDepth 20000 in
theorem dX11_part_27 : decode cX11_part 27 = .ok (.i2l, 1) := by decide +kernel
set_option maxRecDepth 20000 in
theorem dX11_part_28 : decode cX11_part 28 = .ok (.lreturn, 1) := by decide +kernel
set_option maxRecDepth 20000 in
theorem dX11_image_0 : decode cX11_image 0 = .ok (.iload_n 1, 1) := by decide +kernel
set_option maxRecDepth 20000 in
theorem dX11_image_1 : decode cX11_image 1 = .ok (.i2l, 1) := by decide +kernel
set_option maxRecDepth 20000 in
theorem dX11_image_2 : decode cX11_image 2 = .ok (.lconst 0, 1) := by decide +kernel
set_option maxRecDepth 20000 in
theorem dX11_image_3 : decode cX11_image 3 = .ok (.lconst 1, 1) := by decide +kernel
set_option maxRecDepth 20000 in
theorem dX11_image_4 : decode cX11_image 4 = .ok (.invokestatic 51, 3) := by decide +kernel
set_option maxRecDepth 20000 in
theorem dX11_image_7 : decode cX11_image 7 = .ok (.ifCond .ne 8, 3) := by decide +kernel
set_option maxRecDepth 20000 in
theorem dX11_image_10 : decode cX11_image 10 = .ok (.aload_n 0, 1) := by decide +kernel
set_option maxRecDepth 20000 in
theorem dX11_image_11 : decode cX11_image 11 = .ok (.invokevirtual 61, 3) := by decide +kernel
set_option maxRecDepth 20000 in
theorem dX11_image_14 : decode cX11_image 14 = .ok (.ireturn, 1) := by decide +kernel
set_option maxRecDepth 20000 in
theorem dX11_image_15 : decode cX11_image 15 = .ok (.aload_n 0, 1) := by decide +kernel
set_option maxRecDepth 20000 in
theorem dX11_image_16 : decode cX11_image 16 = .ok (.iconst 0, 1) := by decide +kernel
set_option maxRecDepth 20000 in
theorem dX11_image_17 : decode cX11_image 17 = .ok (.sipush 152, 3) := by decide +kernel
set_option maxRecDepth 20000 in
theorem dX11_image_20 : decode cX11_image 20 = .ok (.iconst 1, 1) := by decide +kernel
set_option maxRecDepth 20000 in
theorem dX11_image_21 : decode cX11_image 21 = .ok (.iload_n 1, 1) := by decide +kernel
set_option maxRecDepth 20000 in
theorem dX11_image_22 : decode cX11_image 22 = .ok (.iadd, 1) := by decide +kernel
set_option maxRecDepth 20000 in
theorem dX11_image_23 : decode cX11_image 23 = .ok (.imul, 1) := by decide +kernel
set_option maxRecDepth 20000 in
theorem dX11_image_24 : decode cX11_image 24 = .ok (.invokevirtual 149, 3) := by decide +kernel
set_option maxRecDepth 20000 in
theorem dX11_image_27 : decode cX11_image 27 = .ok (.aload_n 0, 1) := by decide +kernel
set_option maxRecDepth 20000 in
theorem dX11_image_28 : decode cX11_image 28 = .ok (.getfield 13, 3) := by decide +kernel
set_option maxRecDepth 20000 in
theorem dX11_image_31 : decode cX11_image 31 = .ok (.iload_n 1, 1) := by decide +kernel
set_option maxRecDepth 20000 in
theorem dX11_image_32 : decode cX11_image 32 = .ok (.iconst 1, 1) := by decide +kernel
set_option maxRecDepth 20000 in
theorem dX11_image_33 : decode cX11_image 33 = .ok (.bastore, 1) := by decide +kernel
set_option maxRecDepth 20000 in
theorem dX11_image_34 : decode cX11_image 34 = .ok (.iconst 1, 1) := by decide +kernel
set_option maxRecDepth 20000 in
theorem dX11_image_35 : decode cX11_image 35 = .ok (.ireturn, 1) := by decide +kernel
set_option maxRecDepth 20000 in
theorem dX11_from_0 : decode cX11_from 0 = .ok (.iload_n 1, 1) := by decide +kernel
set_option maxRecDepth 20000 in
theorem dX11_from_1 : decode cX11_from 1 = .ok (.i2l, 1) := by decide +kernel
set_option maxRecDepth 20000 in
theorem dX11_from_2 : decode cX11_from 2 = .ok (.lconst 0, 1) := by decide +kernel
set_option maxRecDepth 20000 in
theorem dX11_from_3 : decode cX11_from 3 = .ok (.lconst 1, 1) := by decide +kernel
set_option maxRecDepth 20000 in
theorem dX11_from_4 : decode cX11_from 4 = .ok (.invokestatic 51, 3) := by decide +kernel
set_option maxRecDepth 20000 in
theorem dX11_from_7 : decode cX11_from 7 = .ok (.ifCond .ne 8, 3) := by decide +kernel
set_option maxRecDepth 20000 in
theorem dX11_from_10 : decode cX11_from 10 = .ok (.aload_n 0, 1) := by decide +kernel
set_option maxRecDepth 20000 in
theorem dX11_from_11 : decode cX11_from 11 = .ok (.invokevirtual 61, 3) := by decide +kernel
set_option maxRecDepth 20000 in
theorem dX11_from_14 : decode cX11_from 14 = .ok (.ireturn, 1) := by decide +kernel
set_option maxRecDepth 20000 in
theorem dX11_from_15 : decode cX11_from 15 = .ok (.aload_n 0, 1) := by decide +kernel
set_option maxRecDepth 20000 in
theorem dX11_from_16 : decode cX11_from 16 = .ok (.getfield 13, 3) := by decide +kernel
set_option maxRecDepth 20000 in
theorem dX11_from_19 : decode cX11_from 19 = .ok (.iload_n 1, 1) := by decide +kernel
set_option maxRecDepth 20000 in
theorem dX11_from_20 : decode cX11_from 20 = .ok (.baload, 1) := by decide +kernel
set_option maxRecDepth 20000 in
theorem dX11_from_21 : decode cX11_from 21 = .ok (.ifCond .ne 8, 3) := by decide +kernel
set_option maxRecDepth 20000 in
theorem dX11_from_24 : decode cX11_from 24 = .ok (.aload_n 0, 1) := by decide +kernel
set_option maxRecDepth 20000 in
theorem dX11_from_25 : decode cX11_from 25 = .ok (.invokevirtual 205, 3) := by decide +kernel
set_option maxRecDepth 20000 in
theorem dX11_from_28 : decode cX11_from 28 = .ok (.ireturn, 1) := by decide +kernel
set_option maxRecDepth 20000 in
theorem dX11_from_29 : decode cX11_from 29 = .ok (.aload_n 0, 1) := by decide +kernel
set_option maxRecDepth 20000 in
theorem dX11_from_30 : decode cX11_from 30 = .ok (.sipush 152, 3) := by decide +kernel
set_option maxRecDepth 20000 in
theorem dX11_from_33 : decode cX11_from 33 = .ok (.iconst 1, 1) := by decide +kernel
set_option maxRecDepth 20000 in
theorem dX11_from_34 : decode cX11_from 34 = .ok (.iload_n 1, 1) := by decide +kernel
set_option maxRecDepth 20000 in
theorem dX11_from_35 : decode cX11_from 35 = .ok (.iadd, 1) := by decide +kernel
set_option maxRecDepth 20000 in
theorem dX11_from_36 : decode cX11_from 36 = .ok (.imul, 1) := by decide +kernel
set_option maxRecDepth 20000 in
theorem dX11_from_37 : decode cX11_from 37 = .ok (.iconst 0, 1) := by decide +kernel
set_option maxRecDepth 20000 in
theorem dX11_from_38 : decode cX11_from 38 = .ok (.invokevirtual 149, 3) := by decide +kernel
set_option maxRecDepth 20000 in
theorem dX11_from_41 : decode cX11_from 41 = .ok (.iconst 1, 1) := by decide +kernel
set_option maxRecDepth 20000 in
theorem dX11_from_42 : decode cX11_from 42 = .ok (.ireturn, 1) := by decide +kernel
set_option maxRecDepth 20000 in
theorem dX11_status_0 : decode cX11_status 0 = .ok (.iload_n 1, 1) := by decide +kernel
set_option maxRecDepth 20000 in
theorem dX11_status_1 : decode cX11_status 1 = .ok (.i2l, 1) := by decide +kernel
set_option maxRecDepth 20000 in
theorem dX11_status_2 : decode cX11_status 2 = .ok (.lconst 0, 1) := by decide +kernel
set_option maxRecDepth 20000 in
theorem dX11_status_3 : decode cX11_status 3 = .ok (.ldc2_w 246, 3) := by decide +kernel
set_option maxRecDepth 20000 in
theorem dX11_status_6 : decode cX11_status 6 = .ok (.invokestatic 51, 3) := by decide +kernel
set_option maxRecDepth 20000 in
theorem dX11_status_9 : decode cX11_status 9 = .ok (.ifCond .eq 12, 3) := by decide +kernel
set_option maxRecDepth 20000 in
theorem dX11_status_12 : decode cX11_status 12 = .ok (.aload_n 0, 1) := by decide +kernel
set_option maxRecDepth 20000 in
theorem dX11_status_13 : decode cX11_status 13 = .ok (.getfield 20, 3) := by decide +kernel
set_option maxRecDepth 20000 in
theorem dX11_status_16 : decode cX11_status 16 = .ok (.iload_n 1, 1) := by decide +kernel
set_option maxRecDepth 20000 in
theorem dX11_status_17 : decode cX11_status 17 = .ok (.iaload, 1) := by decide +kernel
set_option maxRecDepth 20000 in
theorem dX11_status_18 : decode cX11_status 18 = .ok (.goto 8, 3) := by decide +kernel
set_option maxRecDepth 20000 in
theorem dX11_status_21 : decode cX11_status 21 = .ok (.aload_n 0, 1) := by decide +kernel
set_option maxRecDepth 20000 in
theorem dX11_status_22 : decode cX11_status 22 = .ok (.iconst (-1), 1) := by decide +kernel
set_option maxRecDepth 20000 in
theorem dX11_status_23 : decode cX11_status 23 = .ok (.invokevirtual 220, 3) := by decide +kernel
set_option maxRecDepth 20000 in
theorem dX11_status_26 : decode cX11_status 26 = .ok (.ireturn, 1) := by decide +kernel
set_option maxRecDepth 20000 in
theorem dX11_countOf_0 : decode cX11_countOf 0 = .ok (.iload_n 1, 1) := by decide +kernel
set_option maxRecDepth 20000 in
theorem dX11_countOf_1 : decode cX11_countOf 1 = .ok (.tableswitch 94 0 6 #[43, 50, 57, 64, 71, 78, 86], 43) := by decide +kernel
set_option maxRecDepth 20000 in
theorem dX11_countOf_44 : decode cX11_countOf 44 = .ok (.aload_n 0, 1) := by decide +kernel
set_option maxRecDepth 20000 in
theorem dX11_countOf_45 : decode cX11_countOf 45 = .ok (.getfield 7, 3) := by decide +kernel
set_option maxRecDepth 20000 in
theorem dX11_countOf_48 : decode cX11_countOf 48 = .ok (.iconst 0, 1) := by decide +kernel
set_option maxRecDepth 20000 in
theorem dX11_countOf_49 : decode cX11_countOf 49 = .ok (.iaload, 1) := by decide +kernel
set_option maxRecDepth 20000 in
theorem dX11_countOf_50 : decode cX11_countOf 50 = .ok (.ireturn, 1) := by decide +kernel
set_option maxRecDepth 20000 in
theorem dX11_countOf_51 : decode cX11_countOf 51 = .ok (.aload_n 0, 1) := by decide +kernel
set_option maxRecDepth 20000 in
theorem dX11_countOf_52 : decode cX11_countOf 52 = .ok (.getfield 7, 3) := by decide +kernel
set_option maxRecDepth 20000 in
theorem dX11_countOf_55 : decode cX11_countOf 55 = .ok (.iconst 1, 1) := by decide +kernel
set_option maxRecDepth 20000 in
theorem dX11_countOf_56 : decode cX11_countOf 56 = .ok (.iaload, 1) := by decide +kernel
set_option maxRecDepth 20000 in
theorem dX11_countOf_57 : decode cX11_countOf 57 = .ok (.ireturn, 1) := by decide +kernel
set_option maxRecDepth 20000 in
theorem dX11_countOf_58 : decode cX11_countOf 58 = .ok (.aload_n 0, 1) := by decide +kernel
set_option maxRecDepth 20000 in
theorem dX11_countOf_59 : decode cX11_countOf 59 = .ok (.getfield 7, 3) := by decide +kernel
set_option maxRecDepth 20000 in
theorem dX11_countOf_62 : decode cX11_countOf 62 = .ok (.iconst 3, 1) := by decide +kernel
set_option maxRecDepth 20000 in
theorem dX11_countOf_63 : decode cX11_countOf 63 = .ok (.iaload, 1) := by decide +kernel
set_option maxRecDepth 20000 in
theorem dX11_countOf_64 : decode cX11_countOf 64 = .ok (.ireturn, 1) := by decide +kernel
set_option maxRecDepth 20000 in
theorem dX11_countOf_65 : decode cX11_countOf 65 = .ok (.aload_n 0, 1) := by decide +kernel
set_option maxRecDepth 20000 in
theorem dX11_countOf_66 : decode cX11_countOf 66 = .ok (.getfield 7, 3) := by decide +kernel
set_option maxRecDepth 20000 in
theorem dX11_countOf_69 : decode cX11_countOf 69 = .ok (.iconst 4, 1) := by decide +kernel
set_option maxRecDepth 20000 in
theorem dX11_countOf_70 : decode cX11_countOf 70 = .ok (.iaload, 1) := by decide +kernel
set_option maxRecDepth 20000 in
theorem dX11_countOf_71 : decode cX11_countOf 71 = .ok (.ireturn, 1) := by decide +kernel
set_option maxRecDepth 20000 in
theorem dX11_countOf_72 : decode cX11_countOf 72 = .ok (.aload_n 0, 1) := by decide +kernel
set_option maxRecDepth 20000 in
theorem dX11_countOf_73 : decode cX11_countOf 73 = .ok (.getfield 7, 3) := by decide +kernel
set_option maxRecDepth 20000 in
theorem dX11_countOf_76 : decode cX11_countOf 76 = .ok (.iconst 5, 1) := by decide +kernel
set_option maxRecDepth 20000 in
theorem dX11_countOf_77 : decode cX11_countOf 77 = .ok (.iaload, 1) := by decide +kernel
set_option maxRecDepth 20000 in
theorem dX11_countOf_78 : decode cX11_countOf 78 = .ok (.ireturn, 1) := by decide +kernel
set_option maxRecDepth 20000 in
theorem dX11_countOf_79 : decode cX11_countOf 79 = .ok (.aload_n 0, 1) := by decide +kernel
set_option maxRecDepth 20000 in
theorem dX11_countOf_80 : decode cX11_countOf 80 = .ok (.getfield 7, 3) := by decide +kernel
set_option maxRecDepth 20000 in
theorem dX11_countOf_83 : decode cX11_countOf 83 = .ok (.bipush 6, 2) := by decide +kernel
set_option maxRecDepth 20000 in
theorem dX11_countOf_85 : decode cX11_countOf 85 = .ok (.iaload, 1) := by decide +kernel
set_option maxRecDepth 20000 in
theorem dX11_countOf_86 : decode cX11_countOf 86 = .ok (.ireturn, 1) := by decide +kernel
set_option maxRecDepth 20000 in
theorem dX11_countOf_87 : decode cX11_countOf 87 = .ok (.aload_n 0, 1) := by decide +kernel
set_option maxRecDepth 20000 in
theorem dX11_countOf_88 : decode cX11_countOf 88 = .ok (.getfield 7, 3) := by decide +kernel
set_option maxRecDepth 20000 in
theorem dX11_countOf_91 : decode cX11_countOf 91 = .ok (.bipush 7, 2) := by decide +kernel
set_option maxRecDepth 20000 in
theorem dX11_countOf_93 : decode cX11_countOf 93 = .ok (.iaload, 1) := by decide +kernel
set_option maxRecDepth 20000 in
theorem dX11_countOf_94 : decode cX11_countOf 94 = .ok (.ireturn, 1) := by decide +kernel
set_option maxRecDepth 20000 in
theorem dX11_countOf_95 : decode cX11_countOf 95 = .ok (.aload_n 0, 1) := by decide +kernel
set_option maxRecDepth 20000 in
theorem dX11_countOf_96 : decode cX11_countOf 96 = .ok (.getfield 90, 3) := by decide +kernel
set_option maxRecDepth 20000 in
theorem dX11_countOf_99 : decode cX11_countOf 99 = .ok (.ireturn, 1) := by decide +kernel
set_option maxRecDepth 20000 in
theorem dX11_count_0 : decode cX11_count 0 = .ok (.iload_n 1, 1) := by decide +kernel
set_option maxRecDepth 20000 in
theorem dX11_count_1 : decode cX11_count 1 = .ok (.i2l, 1) := by decide +kernel
set_option maxRecDepth 20000 in
theorem dX11_count_2 : decode cX11_count 2 = .ok (.lconst 0, 1) := by decide +kernel
set_option maxRecDepth 20000 in
theorem dX11_count_3 : decode cX11_count 3 = .ok (.ldc2_w 248, 3) := by decide +kernel
set_option maxRecDepth 20000 in
theorem dX11_count_6 : decode cX11_count 6 = .ok (.invokestatic 51, 3) := by decide +kernel
set_option maxRecDepth 20000 in
theorem dX11_count_9 : decode cX11_count 9 = .ok (.ifCond .eq 11, 3) := by decide +kernel
set_option maxRecDepth 20000 in
theorem dX11_count_12 : decode cX11_count 12 = .ok (.aload_n 0, 1) := by decide +kernel
set_option maxRecDepth 20000 in
theorem dX11_count_13 : decode cX11_count 13 = .ok (.iload_n 1, 1) := by decide +kernel
set_option maxRecDepth 20000 in
theorem dX11_count_14 : decode cX11_count 14 = .ok (.invokevirtual 250, 3) := by decide +kernel
set_option maxRecDepth 20000 in
theorem dX11_count_17 : decode cX11_count 17 = .ok (.goto 7, 3) := by decide +kernel
set_option maxRecDepth 20000 in
theorem dX11_count_20 : decode cX11_count 20 = .ok (.aload_n 0, 1) := by decide +kernel
set_option maxRecDepth 20000 in
theorem dX11_count_21 : decode cX11_count 21 = .ok (.invokevirtual 61, 3) := by decide +kernel
set_option maxRecDepth 20000 in
theorem dX11_count_24 : decode cX11_count 24 = .ok (.ireturn, 1) := by decide +kernel
set_option maxRecDepth 20000 in
theorem dX11_mix_0 : decode cX11_mix 0 = .ok (.aload_n 0, 1) := by decide +kernel
set_option maxRecDepth 20000 in
theorem dX11_mix_1 : decode cX11_mix 1 = .ok (.ldc2_w 253, 3) := by decide +kernel
set_option maxRecDepth 20000 in
theorem dX11_mix_4 : decode cX11_mix 4 = .ok (.aload_n 0, 1) := by decide +kernel
set_option maxRecDepth 20000 in
theorem dX11_mix_5 : decode cX11_mix 5 = .ok (.getfield 255, 3) := by decide +kernel
set_option maxRecDepth 20000 in
theorem dX11_mix_8 : decode cX11_mix 8 = .ok (.lmul, 1) := by decide +kernel
set_option maxRecDepth 20000 in
theorem dX11_mix_9 : decode cX11_mix 9 = .ok (.lload_n 1, 1) := by decide +kernel
set_option maxRecDepth 20000 in
theorem dX11_mix_10 : decode cX11_mix 10 = .ok (.ladd, 1) := by decide +kernel
set_option maxRecDepth 20000 in
theorem dX11_mix_11 : decode cX11_mix 11 = .ok (.putfield 255, 3) := by decide +kernel
set_option maxRecDepth 20000 in
theorem dX11_mix_14 : decode cX11_mix 14 = .ok (.return_, 1) := by decide +kernel
set_option maxRecDepth 20000 in
theorem dX11_digest_0 : decode cX11_digest 0 = .ok (.aload_n 0, 1) := by decide +kernel
set_option maxRecDepth 20000 in
theorem dX11_digest_1 : decode cX11_digest 1 = .ok (.ldc2_w 258, 3) := by decide +kernel
set_option maxRecDepth 20000 in
theorem dX11_digest_4 : decode cX11_digest 4 = .ok (.putfield 255, 3) := by decide +kernel
set_option maxRecDepth 20000 in
theorem dX11_digest_7 : decode cX11_digest 7 = .ok (.iconst 0, 1) := by decide +kernel
set_option maxRecDepth 20000 in
theorem dX11_digest_8 : decode cX11_digest 8 = .ok (.istore_n 1, 1) := by decide +kernel
set_option maxRecDepth 20000 in
theorem dX11_digest_9 : decode cX11_digest 9 = .ok (.iload_n 1, 1) := by decide +kernel
set_option maxRecDepth 20000 in
theorem dX11_digest_10 : decode cX11_digest 10 = .ok (.bipush 8, 2) := by decide +kernel
set_option maxRecDepth 20000 in
theorem dX11_digest_12 : decode cX11_digest 12 = .ok (.if_icmp .ge 19, 3) := by decide +kernel
set_option maxRecDepth 20000 in
theorem dX11_digest_15 : decode cX11_digest 15 = .ok (.aload_n 0, 1) := by decide +kernel
set_option maxRecDepth 20000 in
theorem dX11_digest_16 : decode cX11_digest 16 = .ok (.aload_n 0, 1) := by decide +kernel
set_option maxRecDepth 20000 in
theorem dX11_digest_17 : decode cX11_digest 17 = .ok (.iload_n 1, 1) := by decide +kernel
set_option maxRecDepth 20000 in
theorem dX11_digest_18 : decode cX11_digest 18 = .ok (.invokevirtual 250, 3) := by decide +kernel
set_option maxRecDepth 20000 in
theorem dX11_digest_21 : decode cX11_digest 21 = .ok (.i2l, 1) := by decide +kernel
set_option maxRecDepth 20000 in
theorem dX11_digest_22 : decode cX11_digest 22 = .ok (.invokevirtual 260, 3) := by decide +kernel
set_option maxRecDepth 20000 in
theorem dX11_digest_25 : decode cX11_digest 25 = .ok (.iinc 1 1, 3) := by decide +kernel
set_option maxRecDepth 20000 in
theorem dX11_digest_28 : decode cX11_digest 28 = .ok (.goto (-19), 3) := by decide +kernel
set_option maxRecDepth 20000 in
theorem dX11_digest_31 : decode cX11_digest 31 = .ok (.iconst 0, 1) := by decide +kernel
set_option maxRecDepth 20000 in
theorem dX11_digest_32 : decode cX11_digest 32 = .ok (.istore_n 1, 1) := by decide +kernel
set_option maxRecDepth 20000 in
theorem dX11_digest_33 : decode cX11_digest 33 = .ok (.iload_n 1, 1) := by decide +kernel
set_option maxRecDepth 20000 in
theorem dX11_digest_34 : decode cX11_digest 34 = .ok (.bipush 20, 2) := by decide +kernel
set_option maxRecDepth 20000 in
theorem dX11_digest_36 : decode cX11_digest 36 = .ok (.if_icmp .ge 23, 3) := by decide +kernel
set_option maxRecDepth 20000 in
theorem dX11_digest_39 : decode cX11_digest 39 = .ok (.aload_n 0, 1) := by decide +kernel
set_option maxRecDepth 20000 in
theorem dX11_digest_40 : decode cX11_digest 40 = .ok (.aload_n 0, 1) := by decide +kernel
set_option maxRecDepth 20000 in
theorem dX11_digest_41 : decode cX11_digest 41 = .ok (.getfield 7, 3) := by decide +kernel
set_option maxRecDepth 20000 in
theorem dX11_digest_44 : decode cX11_digest 44 = .ok (.bipush 8, 2) := by decide +kernel
set_option maxRecDepth 20000 in
theorem dX11_digest_46 : decode cX11_digest 46 = .ok (.iload_n 1, 1) := by decide +kernel
set_option maxRecDepth 20000 in
theorem dX11_digest_47 : decode cX11_digest 47 = .ok (.iadd, 1) := by decide +kernel
set_option maxRecDepth 20000 in
theorem dX11_digest_48 : decode cX11_digest 48 = .ok (.iaload, 1) := by decide +kernel
set_option maxRecDepth 20000 in
theorem dX11_digest_49 : decode cX11_digest 49 = .ok (.i2l, 1) := by decide +kernel
set_option maxRecDepth 20000 in
theorem dX11_digest_50 : decode cX11_digest 50 = .ok (.invokevirtual 260, 3) := by decide +kernel
set_option maxRecDepth 20000 in
theorem dX11_digest_53 : decode cX11_digest 53 = .ok (.iinc 1 1, 3) := by decide +kernel
set_option maxRecDepth 20000 in
theorem dX11_digest_56 : decode cX11_digest 56 = .ok (.goto (-23), 3) := by decide +kernel
set_option maxRecDepth 20000 in
theorem dX11_digest_59 : decode cX11_digest 59 = .ok (.aload_n 0, 1) := by decide +kernel
set_option maxRecDepth 20000 in
theorem dX11_digest_60 : decode cX11_digest 60 = .ok (.aload_n 0, 1) := by decide +kernel
set_option maxRecDepth 20000 in
theorem dX11_digest_61 : decode cX11_digest 61 = .ok (.getfield 7, 3) := by decide +kernel
set_option maxRecDepth 20000 in
theorem dX11_digest_64 : decode cX11_digest 64 = .ok (.iconst 2, 1) := by decide +kernel
set_option maxRecDepth 20000 in
theorem dX11_digest_65 : decode cX11_digest 65 = .ok (.iaload, 1) := by decide +kernel
set_option maxRecDepth 20000 in
theorem dX11_digest_66 : decode cX11_digest 66 = .ok (.i2l, 1) := by decide +kernel
set_option maxRecDepth 20000 in
theorem dX11_digest_67 : decode cX11_digest 67 = .ok (.invokevirtual 260, 3) := by decide +kernel
set_option maxRecDepth 20000 in
theorem dX11_digest_70 : decode cX11_digest 70 = .ok (.iconst 0, 1) := by decide +kernel
set_option maxRecDepth 20000 in
theorem dX11_digest_71 : decode cX11_digest 71 = .ok (.istore_n 1, 1) := by decide +kernel
set_option maxRecDepth 20000 in
theorem dX11_digest_72 : decode cX11_digest 72 = .ok (.iload_n 1, 1) := by decide +kernel
set_option maxRecDepth 20000 in
theorem dX11_digest_73 : decode cX11_digest 73 = .ok (.aload_n 0, 1) := by decide +kernel
set_option maxRecDepth 20000 in
theorem dX11_digest_74 : decode cX11_digest 74 = .ok (.getfield 7, 3) := by decide +kernel
set_option maxRecDepth 20000 in
theorem dX11_digest_77 : decode cX11_digest 77 = .ok (.iconst 3, 1) := by decide +kernel
set_option maxRecDepth 20000 in
theorem dX11_digest_78 : decode cX11_digest 78 = .ok (.iaload, 1) := by decide +kernel
set_option maxRecDepth 20000 in
theorem dX11_digest_79 : decode cX11_digest 79 = .ok (.if_icmp .ge 41, 3) := by decide +kernel
set_option maxRecDepth 20000 in
theorem dX11_digest_82 : decode cX11_digest 82 = .ok (.iconst 0, 1) := by decide +kernel
set_option maxRecDepth 20000 in
theorem dX11_digest_83 : decode cX11_digest 83 = .ok (.istore_n 2, 1) := by decide +kernel
set_option maxRecDepth 20000 in
theorem dX11_digest_84 : decode cX11_digest 84 = .ok (.iload_n 2, 1) := by decide +kernel
set_option maxRecDepth 20000 in
theorem dX11_digest_85 : decode cX11_digest 85 = .ok (.iconst 4, 1) := by decide +kernel
set_option maxRecDepth 20000 in
theorem dX11_digest_86 : decode cX11_digest 86 = .ok (.if_icmp .ge 28, 3) := by decide +kernel
set_option maxRecDepth 20000 in
theorem dX11_digest_89 : decode cX11_digest 89 = .ok (.aload_n 0, 1) := by decide +kernel
set_option maxRecDepth 20000 in
theorem dX11_digest_90 : decode cX11_digest 90 = .ok (.aload_n 0, 1) := by decide +kernel
set_option maxRecDepth 20000 in
theorem dX11_digest_91 : decode cX11_digest 91 = .ok (.getfield 7, 3) := by decide +kernel
set_option maxRecDepth 20000 in
theorem dX11_digest_94 : decode cX11_digest 94 = .ok (.bipush 28, 2) := by decide +kernel
set_option maxRecDepth 20000 in
theorem dX11_digest_96 : decode cX11_digest 96 = .ok (.bipush 8, 2) := by decide +kernel
set_option maxRecDepth 20000 in
theorem dX11_digest_98 : decode cX11_digest 98 = .ok (.iload_n 2, 1) := by decide +kernel
set_option maxRecDepth 20000 in
theorem dX11_digest_99 : decode cX11_digest 99 = .ok (.imul, 1) := by decide +kernel
set_option maxRecDepth 20000 in
theorem dX11_digest_100 : decode cX11_digest 100 = .ok (.iadd, 1) := by decide +kernel
set_option maxRecDepth 20000 in
theorem dX11_digest_101 : decode cX11_digest 101 = .ok (.iload_n 1, 1) := by decide +kernel
set_option maxRecDepth 20000 in
theorem dX11_digest_102 : decode cX11_digest 102 = .ok (.iadd, 1) := by decide +kernel
set_option maxRecDepth 20000 in
theorem dX11_digest_103 : decode cX11_digest 103 = .ok (.iaload, 1) := by decide +kernel
set_option maxRecDepth 20000 in
theorem dX11_digest_104 : decode cX11_digest 104 = .ok (.i2l, 1) := by decide +kernel
set_option maxRecDepth 20000 in
theorem dX11_digest_105 : decode cX11_digest 105 = .ok (.invokevirtual 260, 3) := by decide +kernel
set_option maxRecDepth 20000 in
theorem dX11_digest_108 : decode cX11_digest 108 = .ok (.iinc 2 1, 3) := by decide +kernel
set_option maxRecDepth 20000 in
theorem dX11_digest_111 : decode cX11_digest 111 = .ok (.goto (-27), 3) := by decide +kernel
set_option maxRecDepth 20000 in
theorem dX11_digest_114 : decode cX11_digest 114 = .ok (.iinc 1 1, 3) := by decide +kernel
set_option maxRecDepth 20000 in
theorem dX11_digest_117 : decode cX11_digest 117 = .ok (.goto (-45), 3) := by decide +kernel
set_option maxRecDepth 20000 in
theorem dX11_digest_120 : decode cX11_digest 120 = .ok (.iconst 0, 1) := by decide +kernel
set_option maxRecDepth 20000 in
theorem dX11_digest_121 : decode cX11_digest 121 = .ok (.istore_n 1, 1) := by decide +kernel
set_option maxRecDepth 20000 in
theorem dX11_digest_122 : decode cX11_digest 122 = .ok (.iload_n 1, 1) := by decide +kernel
set_option maxRecDepth 20000 in
theorem dX11_digest_123 : decode cX11_digest 123 = .ok (.aload_n 0, 1) := by decide +kernel
set_option maxRecDepth 20000 in
theorem dX11_digest_124 : decode cX11_digest 124 = .ok (.getfield 7, 3) := by decide +kernel
set_option maxRecDepth 20000 in
theorem dX11_digest_127 : decode cX11_digest 127 = .ok (.bipush 6, 2) := by decide +kernel
set_option maxRecDepth 20000 in
theorem dX11_digest_129 : decode cX11_digest 129 = .ok (.iaload, 1) := by decide +kernel
set_option maxRecDepth 20000 in
theorem dX11_digest_130 : decode cX11_digest 130 = .ok (.if_icmp .ge 37, 3) := by decide +kernel
set_option maxRecDepth 20000 in
theorem dX11_digest_133 : decode cX11_digest 133 = .ok (.aload_n 0, 1) := by decide +kernel
set_option maxRecDepth 20000 in
theorem dX11_digest_134 : decode cX11_digest 134 = .ok (.aload_n 0, 1) := by decide +kernel
set_option maxRecDepth 20000 in
theorem dX11_digest_135 : decode cX11_digest 135 = .ok (.getfield 7, 3) := by decide +kernel
set_option maxRecDepth 20000 in
theorem dX11_digest_138 : decode cX11_digest 138 = .ok (.bipush 60, 2) := by decide +kernel
set_option maxRecDepth 20000 in
theorem dX11_digest_140 : decode cX11_digest 140 = .ok (.iload_n 1, 1) := by decide +kernel
set_option maxRecDepth 20000 in
theorem dX11_digest_141 : decode cX11_digest 141 = .ok (.iadd, 1) := by decide +kernel
set_option maxRecDepth 20000 in
theorem dX11_digest_142 : decode cX11_digest 142 = .ok (.iaload, 1) := by decide +kernel
set_option maxRecDepth 20000 in
theorem dX11_digest_143 : decode cX11_digest 143 = .ok (.i2l, 1) := by decide +kernel
set_option maxRecDepth 20000 in
theorem dX11_digest_144 : decode cX11_digest 144 = .ok (.invokevirtual 260, 3) := by decide +kernel
set_option maxRecDepth 20000 in
theorem dX11_digest_147 : decode cX11_digest 147 = .ok (.aload_n 0, 1) := by decide +kernel
set_option maxRecDepth 20000 in
theorem dX11_digest_148 : decode cX11_digest 148 = .ok (.aload_n 0, 1) := by decide +kernel
set_option maxRecDepth 20000 in
theorem dX11_digest_149 : decode cX11_digest 149 = .ok (.getfield 7, 3) := by decide +kernel
set_option maxRecDepth 20000 in
theorem dX11_digest_152 : decode cX11_digest 152 = .ok (.bipush 66, 2) := by decide +kernel
set_option maxRecDepth 20000 in
theorem dX11_digest_154 : decode cX11_digest 154 = .ok (.iload_n 1, 1) := by decide +kernel
set_option maxRecDepth 20000 in
theorem dX11_digest_155 : decode cX11_digest 155 = .ok (.iadd, 1) := by decide +kernel
set_option maxRecDepth 20000 in
theorem dX11_digest_156 : decode cX11_digest 156 = .ok (.iaload, 1) := by decide +kernel
set_option maxRecDepth 20000 in
theorem dX11_digest_157 : decode cX11_digest 157 = .ok (.i2l, 1) := by decide +kernel
set_option maxRecDepth 20000 in
theorem dX11_digest_158 : decode cX11_digest 158 = .ok (.invokevirtual 260, 3) := by decide +kernel
set_option maxRecDepth 20000 in
theorem dX11_digest_161 : decode cX11_digest 161 = .ok (.iinc 1 1, 3) := by decide +kernel
set_option maxRecDepth 20000 in
theorem dX11_digest_164 : decode cX11_digest 164 = .ok (.goto (-42), 3) := by decide +kernel
set_option maxRecDepth 20000 in
theorem dX11_digest_167 : decode cX11_digest 167 = .ok (.aload_n 0, 1) := by decide +kernel
set_option maxRecDepth 20000 in
theorem dX11_digest_168 : decode cX11_digest 168 = .ok (.aload_n 0, 1) := by decide +kernel
set_option maxRecDepth 20000 in
theorem dX11_digest_169 : decode cX11_digest 169 = .ok (.getfield 223, 3) := by decide +kernel
set_option maxRecDepth 20000 in
theorem dX11_digest_172 : decode cX11_digest 172 = .ok (.invokevirtual 260, 3) := by decide +kernel
set_option maxRecDepth 20000 in
theorem dX11_digest_175 : decode cX11_digest 175 = .ok (.aload_n 0, 1) := by decide +kernel
set_option maxRecDepth 20000 in
theorem dX11_digest_176 : decode cX11_digest 176 = .ok (.aload_n 0, 1) := by decide +kernel
set_option maxRecDepth 20000 in
theorem dX11_digest_177 : decode cX11_digest 177 = .ok (.getfield 23, 3) := by decide +kernel
set_option maxRecDepth 20000 in
theorem dX11_digest_180 : decode cX11_digest 180 = .ok (.invokevirtual 260, 3) := by decide +kernel
set_option maxRecDepth 20000 in
theorem dX11_digest_183 : decode cX11_digest 183 = .ok (.aload_n 0, 1) := by decide +kernel
set_option maxRecDepth 20000 in
theorem dX11_digest_184 : decode cX11_digest 184 = .ok (.getfield 255, 3) := by decide +kernel
set_option maxRecDepth 20000 in
theorem dX11_digest_187 : decode cX11_digest 187 = .ok (.lreturn, 1) := by decide +kernel
