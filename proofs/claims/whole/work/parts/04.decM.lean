section XDEC
theorem d_MD_init_0 : decode b_MD_init 0 = .ok (.aload_n 0, 1) := by decide +kernel
theorem d_MD_init_1 : decode b_MD_init 1 = .ok (.invokespecial 1, 3) := by decide +kernel
theorem d_MD_init_4 : decode b_MD_init 4 = .ok (.aload_n 0, 1) := by decide +kernel
theorem d_MD_init_5 : decode b_MD_init 5 = .ok (.bipush 8, 2) := by decide +kernel
theorem d_MD_init_7 : decode b_MD_init 7 = .ok (.newarray .int, 2) := by decide +kernel
theorem d_MD_init_9 : decode b_MD_init 9 = .ok (.putfield 7, 3) := by decide +kernel
theorem d_MD_init_12 : decode b_MD_init 12 = .ok (.aload_n 0, 1) := by decide +kernel
theorem d_MD_init_13 : decode b_MD_init 13 = .ok (.bipush 8, 2) := by decide +kernel
theorem d_MD_init_15 : decode b_MD_init 15 = .ok (.newarray .double, 2) := by decide +kernel
theorem d_MD_init_17 : decode b_MD_init 17 = .ok (.putfield 13, 3) := by decide +kernel
theorem d_MD_init_20 : decode b_MD_init 20 = .ok (.aload_n 0, 1) := by decide +kernel
theorem d_MD_init_21 : decode b_MD_init 21 = .ok (.bipush 24, 2) := by decide +kernel
theorem d_MD_init_23 : decode b_MD_init 23 = .ok (.newarray .int, 2) := by decide +kernel
theorem d_MD_init_25 : decode b_MD_init 25 = .ok (.putfield 17, 3) := by decide +kernel
theorem d_MD_init_28 : decode b_MD_init 28 = .ok (.aload_n 0, 1) := by decide +kernel
theorem d_MD_init_29 : decode b_MD_init 29 = .ok (.bipush 8, 2) := by decide +kernel
theorem d_MD_init_31 : decode b_MD_init 31 = .ok (.newarray .int, 2) := by decide +kernel
theorem d_MD_init_33 : decode b_MD_init 33 = .ok (.putfield 20, 3) := by decide +kernel
theorem d_MD_init_36 : decode b_MD_init 36 = .ok (.aload_n 0, 1) := by decide +kernel
theorem d_MD_init_37 : decode b_MD_init 37 = .ok (.bipush 30, 2) := by decide +kernel
theorem d_MD_init_39 : decode b_MD_init 39 = .ok (.newarray .int, 2) := by decide +kernel
theorem d_MD_init_41 : decode b_MD_init 41 = .ok (.putfield 23, 3) := by decide +kernel
theorem d_MD_init_44 : decode b_MD_init 44 = .ok (.aload_n 0, 1) := by decide +kernel
theorem d_MD_init_45 : decode b_MD_init 45 = .ok (.bipush 30, 2) := by decide +kernel
theorem d_MD_init_47 : decode b_MD_init 47 = .ok (.newarray .int, 2) := by decide +kernel
theorem d_MD_init_49 : decode b_MD_init 49 = .ok (.putfield 26, 3) := by decide +kernel
theorem d_MD_init_52 : decode b_MD_init 52 = .ok (.aload_n 0, 1) := by decide +kernel
theorem d_MD_init_53 : decode b_MD_init 53 = .ok (.bipush 30, 2) := by decide +kernel
theorem d_MD_init_55 : decode b_MD_init 55 = .ok (.newarray .double, 2) := by decide +kernel
theorem d_MD_init_57 : decode b_MD_init 57 = .ok (.putfield 29, 3) := by decide +kernel
theorem d_MD_init_60 : decode b_MD_init 60 = .ok (.aload_n 0, 1) := by decide +kernel
theorem d_MD_init_61 : decode b_MD_init 61 = .ok (.iconst 5, 1) := by decide +kernel
theorem d_MD_init_62 : decode b_MD_init 62 = .ok (.newarray .boolean, 2) := by decide +kernel
theorem d_MD_init_64 : decode b_MD_init 64 = .ok (.putfield 32, 3) := by decide +kernel
theorem d_MD_init_67 : decode b_MD_init 67 = .ok (.aload_n 0, 1) := by decide +kernel
theorem d_MD_init_68 : decode b_MD_init 68 = .ok (.sipush 150, 3) := by decide +kernel
theorem d_MD_init_71 : decode b_MD_init 71 = .ok (.newarray .int, 2) := by decide +kernel
theorem d_MD_init_73 : decode b_MD_init 73 = .ok (.putfield 36, 3) := by decide +kernel
theorem d_MD_init_76 : decode b_MD_init 76 = .ok (.aload_n 0, 1) := by decide +kernel
theorem d_MD_init_77 : decode b_MD_init 77 = .ok (.sipush 150, 3) := by decide +kernel
theorem d_MD_init_80 : decode b_MD_init 80 = .ok (.newarray .int, 2) := by decide +kernel
theorem d_MD_init_82 : decode b_MD_init 82 = .ok (.putfield 39, 3) := by decide +kernel
theorem d_MD_init_85 : decode b_MD_init 85 = .ok (.aload_n 0, 1) := by decide +kernel
theorem d_MD_init_86 : decode b_MD_init 86 = .ok (.sipush 600, 3) := by decide +kernel
theorem d_MD_init_89 : decode b_MD_init 89 = .ok (.newarray .int, 2) := by decide +kernel
theorem d_MD_init_91 : decode b_MD_init 91 = .ok (.putfield 42, 3) := by decide +kernel
theorem d_MD_init_94 : decode b_MD_init 94 = .ok (.aload_n 0, 1) := by decide +kernel
theorem d_MD_init_95 : decode b_MD_init 95 = .ok (.bipush 72, 2) := by decide +kernel
theorem d_MD_init_97 : decode b_MD_init 97 = .ok (.newarray .int, 2) := by decide +kernel
theorem d_MD_init_99 : decode b_MD_init 99 = .ok (.putfield 45, 3) := by decide +kernel
theorem d_MD_init_102 : decode b_MD_init 102 = .ok (.aload_n 0, 1) := by decide +kernel
theorem d_MD_init_103 : decode b_MD_init 103 = .ok (.bipush 72, 2) := by decide +kernel
theorem d_MD_init_105 : decode b_MD_init 105 = .ok (.newarray .int, 2) := by decide +kernel
theorem d_MD_init_107 : decode b_MD_init 107 = .ok (.putfield 48, 3) := by decide +kernel
theorem d_MD_init_110 : decode b_MD_init 110 = .ok (.aload_n 0, 1) := by decide +kernel
theorem d_MD_init_111 : decode b_MD_init 111 = .ok (.bipush 72, 2) := by decide +kernel
theorem d_MD_init_113 : decode b_MD_init 113 = .ok (.newarray .int, 2) := by decide +kernel
theorem d_MD_init_115 : decode b_MD_init 115 = .ok (.putfield 51, 3) := by decide +kernel
theorem d_MD_init_118 : decode b_MD_init 118 = .ok (.aload_n 0, 1) := by decide +kernel
theorem d_MD_init_119 : decode b_MD_init 119 = .ok (.bipush 72, 2) := by decide +kernel
theorem d_MD_init_121 : decode b_MD_init 121 = .ok (.newarray .double, 2) := by decide +kernel
theorem d_MD_init_123 : decode b_MD_init 123 = .ok (.putfield 54, 3) := by decide +kernel
theorem d_MD_init_126 : decode b_MD_init 126 = .ok (.iconst 0, 1) := by decide +kernel
theorem d_MD_init_127 : decode b_MD_init 127 = .ok (.istore_n 1, 1) := by decide +kernel
theorem d_MD_init_128 : decode b_MD_init 128 = .ok (.iload_n 1, 1) := by decide +kernel
theorem d_MD_init_129 : decode b_MD_init 129 = .ok (.bipush 30, 2) := by decide +kernel
theorem d_MD_init_131 : decode b_MD_init 131 = .ok (.if_icmp .ge 18, 3) := by decide +kernel
theorem d_MD_init_134 : decode b_MD_init 134 = .ok (.aload_n 0, 1) := by decide +kernel
theorem d_MD_init_135 : decode b_MD_init 135 = .ok (.getfield 29, 3) := by decide +kernel
theorem d_MD_init_138 : decode b_MD_init 138 = .ok (.iload_n 1, 1) := by decide +kernel
theorem d_MD_init_139 : decode b_MD_init 139 = .ok (.ldc2_w 57, 3) := by decide +kernel
theorem d_MD_init_142 : decode b_MD_init 142 = .ok (.dastore, 1) := by decide +kernel
theorem d_MD_init_143 : decode b_MD_init 143 = .ok (.iinc 1 1, 3) := by decide +kernel
theorem d_MD_init_146 : decode b_MD_init 146 = .ok (.goto (-18), 3) := by decide +kernel
theorem d_MD_init_149 : decode b_MD_init 149 = .ok (.iconst 0, 1) := by decide +kernel
theorem d_MD_init_150 : decode b_MD_init 150 = .ok (.istore_n 1, 1) := by decide +kernel
theorem d_MD_init_151 : decode b_MD_init 151 = .ok (.iload_n 1, 1) := by decide +kernel
theorem d_MD_init_152 : decode b_MD_init 152 = .ok (.bipush 72, 2) := by decide +kernel
theorem d_MD_init_154 : decode b_MD_init 154 = .ok (.if_icmp .ge 18, 3) := by decide +kernel
theorem d_MD_init_157 : decode b_MD_init 157 = .ok (.aload_n 0, 1) := by decide +kernel
theorem d_MD_init_158 : decode b_MD_init 158 = .ok (.getfield 54, 3) := by decide +kernel
theorem d_MD_init_161 : decode b_MD_init 161 = .ok (.iload_n 1, 1) := by decide +kernel
theorem d_MD_init_162 : decode b_MD_init 162 = .ok (.ldc2_w 57, 3) := by decide +kernel
theorem d_MD_init_165 : decode b_MD_init 165 = .ok (.dastore, 1) := by decide +kernel
theorem d_MD_init_166 : decode b_MD_init 166 = .ok (.iinc 1 1, 3) := by decide +kernel
theorem d_MD_init_169 : decode b_MD_init 169 = .ok (.goto (-18), 3) := by decide +kernel
theorem d_MD_init_172 : decode b_MD_init 172 = .ok (.return_, 1) := by decide +kernel
theorem d_MD_thrown_0 : decode b_MD_thrown 0 = .ok (.aload_n 0, 1) := by decide +kernel
theorem d_MD_thrown_1 : decode b_MD_thrown 1 = .ok (.getfield 59, 3) := by decide +kernel
theorem d_MD_thrown_4 : decode b_MD_thrown 4 = .ok (.ireturn, 1) := by decide +kernel
theorem d_MD_create_0 : decode b_MD_create 0 = .ok (.aload_n 0, 1) := by decide +kernel
theorem d_MD_create_1 : decode b_MD_create 1 = .ok (.iconst 0, 1) := by decide +kernel
theorem d_MD_create_2 : decode b_MD_create 2 = .ok (.putfield 59, 3) := by decide +kernel
theorem d_MD_create_5 : decode b_MD_create 5 = .ok (.aload_n 0, 1) := by decide +kernel
theorem d_MD_create_6 : decode b_MD_create 6 = .ok (.iload_n 1, 1) := by decide +kernel
theorem d_MD_create_7 : decode b_MD_create 7 = .ok (.bipush 8, 2) := by decide +kernel
theorem d_MD_create_9 : decode b_MD_create 9 = .ok (.invokevirtual 63, 3) := by decide +kernel
theorem d_MD_create_12 : decode b_MD_create 12 = .ok (.ifCond .eq 9, 3) := by decide +kernel
theorem d_MD_create_15 : decode b_MD_create 15 = .ok (.aload_n 0, 1) := by decide +kernel
theorem d_MD_create_16 : decode b_MD_create 16 = .ok (.iconst 1, 1) := by decide +kernel
theorem d_MD_create_17 : decode b_MD_create 17 = .ok (.invokevirtual 67, 3) := by decide +kernel
theorem d_MD_create_20 : decode b_MD_create 20 = .ok (.ireturn, 1) := by decide +kernel
theorem d_MD_create_21 : decode b_MD_create 21 = .ok (.aload_n 0, 1) := by decide +kernel
theorem d_MD_create_22 : decode b_MD_create 22 = .ok (.getfield 7, 3) := by decide +kernel
theorem d_MD_create_25 : decode b_MD_create 25 = .ok (.iload_n 1, 1) := by decide +kernel
theorem d_MD_create_26 : decode b_MD_create 26 = .ok (.iaload, 1) := by decide +kernel
theorem d_MD_create_27 : decode b_MD_create 27 = .ok (.ifCond .eq 9, 3) := by decide +kernel
theorem d_MD_create_30 : decode b_MD_create 30 = .ok (.aload_n 0, 1) := by decide +kernel
theorem d_MD_create_31 : decode b_MD_create 31 = .ok (.iconst 2, 1) := by decide +kernel
theorem d_MD_create_32 : decode b_MD_create 32 = .ok (.invokevirtual 67, 3) := by decide +kernel
theorem d_MD_create_35 : decode b_MD_create 35 = .ok (.ireturn, 1) := by decide +kernel
theorem d_MD_create_36 : decode b_MD_create 36 = .ok (.aload_n 0, 1) := by decide +kernel
theorem d_MD_create_37 : decode b_MD_create 37 = .ok (.getfield 7, 3) := by decide +kernel
theorem d_MD_create_40 : decode b_MD_create 40 = .ok (.iload_n 1, 1) := by decide +kernel
theorem d_MD_create_41 : decode b_MD_create 41 = .ok (.iconst 1, 1) := by decide +kernel
theorem d_MD_create_42 : decode b_MD_create 42 = .ok (.iastore, 1) := by decide +kernel
theorem d_MD_create_43 : decode b_MD_create 43 = .ok (.aload_n 0, 1) := by decide +kernel
theorem d_MD_create_44 : decode b_MD_create 44 = .ok (.getfield 20, 3) := by decide +kernel
theorem d_MD_create_47 : decode b_MD_create 47 = .ok (.iload_n 1, 1) := by decide +kernel
theorem d_MD_create_48 : decode b_MD_create 48 = .ok (.iconst 0, 1) := by decide +kernel
theorem d_MD_create_49 : decode b_MD_create 49 = .ok (.iastore, 1) := by decide +kernel
theorem d_MD_create_50 : decode b_MD_create 50 = .ok (.iconst 0, 1) := by decide +kernel
theorem d_MD_create_51 : decode b_MD_create 51 = .ok (.istore_n 2, 1) := by decide +kernel
theorem d_MD_create_52 : decode b_MD_create 52 = .ok (.iconst 0, 1) := by decide +kernel
theorem d_MD_create_53 : decode b_MD_create 53 = .ok (.istore_n 3, 1) := by decide +kernel
theorem d_MD_create_54 : decode b_MD_create 54 = .ok (.iload_n 3, 1) := by decide +kernel
theorem d_MD_create_55 : decode b_MD_create 55 = .ok (.bipush 8, 2) := by decide +kernel
theorem d_MD_create_57 : decode b_MD_create 57 = .ok (.if_icmp .ge 27, 3) := by decide +kernel
theorem d_MD_create_60 : decode b_MD_create 60 = .ok (.iload_n 2, 1) := by decide +kernel
theorem d_MD_create_61 : decode b_MD_create 61 = .ok (.aload_n 0, 1) := by decide +kernel
theorem d_MD_create_62 : decode b_MD_create 62 = .ok (.getfield 7, 3) := by decide +kernel
theorem d_MD_create_65 : decode b_MD_create 65 = .ok (.iload_n 3, 1) := by decide +kernel
theorem d_MD_create_66 : decode b_MD_create 66 = .ok (.iaload, 1) := by decide +kernel
theorem d_MD_create_67 : decode b_MD_create 67 = .ok (.iconst 1, 1) := by decide +kernel
theorem d_MD_create_68 : decode b_MD_create 68 = .ok (.if_icmp .ne 7, 3) := by decide +kernel
theorem d_MD_create_71 : decode b_MD_create 71 = .ok (.iconst 1, 1) := by decide +kernel
theorem d_MD_create_72 : decode b_MD_create 72 = .ok (.goto 4, 3) := by decide +kernel
theorem d_MD_create_75 : decode b_MD_create 75 = .ok (.iconst 0, 1) := by decide +kernel
theorem d_MD_create_76 : decode b_MD_create 76 = .ok (.iadd, 1) := by decide +kernel
theorem d_MD_create_77 : decode b_MD_create 77 = .ok (.istore_n 2, 1) := by decide +kernel
theorem d_MD_create_78 : decode b_MD_create 78 = .ok (.iinc 3 1, 3) := by decide +kernel
theorem d_MD_create_81 : decode b_MD_create 81 = .ok (.goto (-27), 3) := by decide +kernel
theorem d_MD_create_84 : decode b_MD_create 84 = .ok (.iload_n 2, 1) := by decide +kernel
theorem d_MD_create_85 : decode b_MD_create 85 = .ok (.ireturn, 1) := by decide +kernel
theorem d_MD_out_0 : decode b_MD_out 0 = .ok (.iload_n 1, 1) := by decide +kernel
theorem d_MD_out_1 : decode b_MD_out 1 = .ok (.ifCond .lt 8, 3) := by decide +kernel
theorem d_MD_out_4 : decode b_MD_out 4 = .ok (.iload_n 1, 1) := by decide +kernel
theorem d_MD_out_5 : decode b_MD_out 5 = .ok (.iload_n 2, 1) := by decide +kernel
theorem d_MD_out_6 : decode b_MD_out 6 = .ok (.if_icmp .lt 7, 3) := by decide +kernel
theorem d_MD_out_9 : decode b_MD_out 9 = .ok (.iconst 1, 1) := by decide +kernel
theorem d_MD_out_10 : decode b_MD_out 10 = .ok (.goto 4, 3) := by decide +kernel
theorem d_MD_out_13 : decode b_MD_out 13 = .ok (.iconst 0, 1) := by decide +kernel
theorem d_MD_out_14 : decode b_MD_out 14 = .ok (.ireturn, 1) := by decide +kernel
theorem d_MD_fail_0 : decode b_MD_fail 0 = .ok (.aload_n 0, 1) := by decide +kernel
theorem d_MD_fail_1 : decode b_MD_fail 1 = .ok (.iload_n 1, 1) := by decide +kernel
theorem d_MD_fail_2 : decode b_MD_fail 2 = .ok (.putfield 59, 3) := by decide +kernel
theorem d_MD_fail_5 : decode b_MD_fail 5 = .ok (.iconst 0, 1) := by decide +kernel
theorem d_MD_fail_6 : decode b_MD_fail 6 = .ok (.ireturn, 1) := by decide +kernel
theorem d_MD_remove_0 : decode b_MD_remove 0 = .ok (.aload_n 0, 1) := by decide +kernel
theorem d_MD_remove_1 : decode b_MD_remove 1 = .ok (.iconst 0, 1) := by decide +kernel
theorem d_MD_remove_2 : decode b_MD_remove 2 = .ok (.putfield 59, 3) := by decide +kernel
theorem d_MD_remove_5 : decode b_MD_remove 5 = .ok (.aload_n 0, 1) := by decide +kernel
theorem d_MD_remove_6 : decode b_MD_remove 6 = .ok (.iload_n 1, 1) := by decide +kernel
theorem d_MD_remove_7 : decode b_MD_remove 7 = .ok (.bipush 8, 2) := by decide +kernel
theorem d_MD_remove_9 : decode b_MD_remove 9 = .ok (.invokevirtual 63, 3) := by decide +kernel
theorem d_MD_remove_12 : decode b_MD_remove 12 = .ok (.ifCond .eq 9, 3) := by decide +kernel
theorem d_MD_remove_15 : decode b_MD_remove 15 = .ok (.aload_n 0, 1) := by decide +kernel
theorem d_MD_remove_16 : decode b_MD_remove 16 = .ok (.iconst 1, 1) := by decide +kernel
theorem d_MD_remove_17 : decode b_MD_remove 17 = .ok (.invokevirtual 67, 3) := by decide +kernel
theorem d_MD_remove_20 : decode b_MD_remove 20 = .ok (.ireturn, 1) := by decide +kernel
theorem d_MD_remove_21 : decode b_MD_remove 21 = .ok (.aload_n 0, 1) := by decide +kernel
theorem d_MD_remove_22 : decode b_MD_remove 22 = .ok (.getfield 7, 3) := by decide +kernel
theorem d_MD_remove_25 : decode b_MD_remove 25 = .ok (.iload_n 1, 1) := by decide +kernel
theorem d_MD_remove_26 : decode b_MD_remove 26 = .ok (.iaload, 1) := by decide +kernel
theorem d_MD_remove_27 : decode b_MD_remove 27 = .ok (.iconst 1, 1) := by decide +kernel
theorem d_MD_remove_28 : decode b_MD_remove 28 = .ok (.if_icmp .eq 9, 3) := by decide +kernel
theorem d_MD_remove_31 : decode b_MD_remove 31 = .ok (.aload_n 0, 1) := by decide +kernel
theorem d_MD_remove_32 : decode b_MD_remove 32 = .ok (.iconst 2, 1) := by decide +kernel
theorem d_MD_remove_33 : decode b_MD_remove 33 = .ok (.invokevirtual 67, 3) := by decide +kernel
theorem d_MD_remove_36 : decode b_MD_remove 36 = .ok (.ireturn, 1) := by decide +kernel
theorem d_MD_remove_37 : decode b_MD_remove 37 = .ok (.aload_n 0, 1) := by decide +kernel
theorem d_MD_remove_38 : decode b_MD_remove 38 = .ok (.getfield 7, 3) := by decide +kernel
theorem d_MD_remove_41 : decode b_MD_remove 41 = .ok (.iload_n 1, 1) := by decide +kernel
theorem d_MD_remove_42 : decode b_MD_remove 42 = .ok (.iconst 2, 1) := by decide +kernel
theorem d_MD_remove_43 : decode b_MD_remove 43 = .ok (.iastore, 1) := by decide +kernel
theorem d_MD_remove_44 : decode b_MD_remove 44 = .ok (.aload_n 0, 1) := by decide +kernel
theorem d_MD_remove_45 : decode b_MD_remove 45 = .ok (.getfield 13, 3) := by decide +kernel
theorem d_MD_remove_48 : decode b_MD_remove 48 = .ok (.iload_n 1, 1) := by decide +kernel
theorem d_MD_remove_49 : decode b_MD_remove 49 = .ok (.aload_n 0, 1) := by decide +kernel
theorem d_MD_remove_50 : decode b_MD_remove 50 = .ok (.getfield 71, 3) := by decide +kernel
theorem d_MD_remove_53 : decode b_MD_remove 53 = .ok (.dastore, 1) := by decide +kernel
theorem d_MD_remove_54 : decode b_MD_remove 54 = .ok (.aload_n 0, 1) := by decide +kernel
theorem d_MD_remove_55 : decode b_MD_remove 55 = .ok (.getfield 20, 3) := by decide +kernel
theorem d_MD_remove_58 : decode b_MD_remove 58 = .ok (.iload_n 1, 1) := by decide +kernel
theorem d_MD_remove_59 : decode b_MD_remove 59 = .ok (.iaload, 1) := by decide +kernel
theorem d_MD_remove_60 : decode b_MD_remove 60 = .ok (.ireturn, 1) := by decide +kernel
theorem d_MD_restore_0 : decode b_MD_restore 0 = .ok (.aload_n 0, 1) := by decide +kernel
theorem d_MD_restore_1 : decode b_MD_restore 1 = .ok (.iconst 0, 1) := by decide +kernel
theorem d_MD_restore_2 : decode b_MD_restore 2 = .ok (.putfield 59, 3) := by decide +kernel
theorem d_MD_restore_5 : decode b_MD_restore 5 = .ok (.aload_n 0, 1) := by decide +kernel
theorem d_MD_restore_6 : decode b_MD_restore 6 = .ok (.iload_n 1, 1) := by decide +kernel
theorem d_MD_restore_7 : decode b_MD_restore 7 = .ok (.bipush 8, 2) := by decide +kernel
theorem d_MD_restore_9 : decode b_MD_restore 9 = .ok (.invokevirtual 63, 3) := by decide +kernel
theorem d_MD_restore_12 : decode b_MD_restore 12 = .ok (.ifCond .eq 9, 3) := by decide +kernel
theorem d_MD_restore_15 : decode b_MD_restore 15 = .ok (.aload_n 0, 1) := by decide +kernel
theorem d_MD_restore_16 : decode b_MD_restore 16 = .ok (.iconst 1, 1) := by decide +kernel
theorem d_MD_restore_17 : decode b_MD_restore 17 = .ok (.invokevirtual 67, 3) := by decide +kernel
theorem d_MD_restore_20 : decode b_MD_restore 20 = .ok (.ireturn, 1) := by decide +kernel
theorem d_MD_restore_21 : decode b_MD_restore 21 = .ok (.aload_n 0, 1) := by decide +kernel
theorem d_MD_restore_22 : decode b_MD_restore 22 = .ok (.getfield 7, 3) := by decide +kernel
theorem d_MD_restore_25 : decode b_MD_restore 25 = .ok (.iload_n 1, 1) := by decide +kernel
theorem d_MD_restore_26 : decode b_MD_restore 26 = .ok (.iaload, 1) := by decide +kernel
theorem d_MD_restore_27 : decode b_MD_restore 27 = .ok (.iconst 2, 1) := by decide +kernel
theorem d_MD_restore_28 : decode b_MD_restore 28 = .ok (.if_icmp .eq 9, 3) := by decide +kernel
theorem d_MD_restore_31 : decode b_MD_restore 31 = .ok (.aload_n 0, 1) := by decide +kernel
theorem d_MD_restore_32 : decode b_MD_restore 32 = .ok (.iconst 2, 1) := by decide +kernel
theorem d_MD_restore_33 : decode b_MD_restore 33 = .ok (.invokevirtual 67, 3) := by decide +kernel
theorem d_MD_restore_36 : decode b_MD_restore 36 = .ok (.ireturn, 1) := by decide +kernel
theorem d_MD_restore_37 : decode b_MD_restore 37 = .ok (.aload_n 0, 1) := by decide +kernel
theorem d_MD_restore_38 : decode b_MD_restore 38 = .ok (.getfield 7, 3) := by decide +kernel
theorem d_MD_restore_41 : decode b_MD_restore 41 = .ok (.iload_n 1, 1) := by decide +kernel
theorem d_MD_restore_42 : decode b_MD_restore 42 = .ok (.iconst 1, 1) := by decide +kernel
theorem d_MD_restore_43 : decode b_MD_restore 43 = .ok (.iastore, 1) := by decide +kernel
theorem d_MD_restore_44 : decode b_MD_restore 44 = .ok (.aload_n 0, 1) := by decide +kernel
theorem d_MD_restore_45 : decode b_MD_restore 45 = .ok (.getfield 20, 3) := by decide +kernel
theorem d_MD_restore_48 : decode b_MD_restore 48 = .ok (.iload_n 1, 1) := by decide +kernel
theorem d_MD_restore_49 : decode b_MD_restore 49 = .ok (.iaload, 1) := by decide +kernel
theorem d_MD_restore_50 : decode b_MD_restore 50 = .ok (.ireturn, 1) := by decide +kernel
theorem d_MD_copy_0 : decode b_MD_copy 0 = .ok (.aload_n 0, 1) := by decide +kernel
theorem d_MD_copy_1 : decode b_MD_copy 1 = .ok (.iconst 0, 1) := by decide +kernel
theorem d_MD_copy_2 : decode b_MD_copy 2 = .ok (.putfield 59, 3) := by decide +kernel
theorem d_MD_copy_5 : decode b_MD_copy 5 = .ok (.aload_n 0, 1) := by decide +kernel
theorem d_MD_copy_6 : decode b_MD_copy 6 = .ok (.iload_n 1, 1) := by decide +kernel
theorem d_MD_copy_7 : decode b_MD_copy 7 = .ok (.bipush 8, 2) := by decide +kernel
theorem d_MD_copy_9 : decode b_MD_copy 9 = .ok (.invokevirtual 63, 3) := by decide +kernel
theorem d_MD_copy_12 : decode b_MD_copy 12 = .ok (.ifCond .ne 13, 3) := by decide +kernel
theorem d_MD_copy_15 : decode b_MD_copy 15 = .ok (.aload_n 0, 1) := by decide +kernel
theorem d_MD_copy_16 : decode b_MD_copy 16 = .ok (.iload_n 2, 1) := by decide +kernel
theorem d_MD_copy_17 : decode b_MD_copy 17 = .ok (.bipush 8, 2) := by decide +kernel
theorem d_MD_copy_19 : decode b_MD_copy 19 = .ok (.invokevirtual 63, 3) := by decide +kernel
theorem d_MD_copy_22 : decode b_MD_copy 22 = .ok (.ifCond .eq 9, 3) := by decide +kernel
theorem d_MD_copy_25 : decode b_MD_copy 25 = .ok (.aload_n 0, 1) := by decide +kernel
theorem d_MD_copy_26 : decode b_MD_copy 26 = .ok (.iconst 1, 1) := by decide +kernel
theorem d_MD_copy_27 : decode b_MD_copy 27 = .ok (.invokevirtual 67, 3) := by decide +kernel
theorem d_MD_copy_30 : decode b_MD_copy 30 = .ok (.ireturn, 1) := by decide +kernel
theorem d_MD_copy_31 : decode b_MD_copy 31 = .ok (.aload_n 0, 1) := by decide +kernel
theorem d_MD_copy_32 : decode b_MD_copy 32 = .ok (.getfield 7, 3) := by decide +kernel
theorem d_MD_copy_35 : decode b_MD_copy 35 = .ok (.iload_n 1, 1) := by decide +kernel
theorem d_MD_copy_36 : decode b_MD_copy 36 = .ok (.iaload, 1) := by decide +kernel
theorem d_MD_copy_37 : decode b_MD_copy 37 = .ok (.iconst 1, 1) := by decide +kernel
theorem d_MD_copy_38 : decode b_MD_copy 38 = .ok (.if_icmp .eq 9, 3) := by decide +kernel
theorem d_MD_copy_41 : decode b_MD_copy 41 = .ok (.aload_n 0, 1) := by decide +kernel
theorem d_MD_copy_42 : decode b_MD_copy 42 = .ok (.iconst 2, 1) := by decide +kernel
theorem d_MD_copy_43 : decode b_MD_copy 43 = .ok (.invokevirtual 67, 3) := by decide +kernel
theorem d_MD_copy_46 : decode b_MD_copy 46 = .ok (.ireturn, 1) := by decide +kernel
theorem d_MD_copy_47 : decode b_MD_copy 47 = .ok (.aload_n 0, 1) := by decide +kernel
theorem d_MD_copy_48 : decode b_MD_copy 48 = .ok (.getfield 7, 3) := by decide +kernel
theorem d_MD_copy_51 : decode b_MD_copy 51 = .ok (.iload_n 2, 1) := by decide +kernel
theorem d_MD_copy_52 : decode b_MD_copy 52 = .ok (.iaload, 1) := by decide +kernel
theorem d_MD_copy_53 : decode b_MD_copy 53 = .ok (.ifCond .eq 9, 3) := by decide +kernel
theorem d_MD_copy_56 : decode b_MD_copy 56 = .ok (.aload_n 0, 1) := by decide +kernel
theorem d_MD_copy_57 : decode b_MD_copy 57 = .ok (.iconst 3, 1) := by decide +kernel
theorem d_MD_copy_58 : decode b_MD_copy 58 = .ok (.invokevirtual 67, 3) := by decide +kernel
theorem d_MD_copy_61 : decode b_MD_copy 61 = .ok (.ireturn, 1) := by decide +kernel
theorem d_MD_copy_62 : decode b_MD_copy 62 = .ok (.aload_n 0, 1) := by decide +kernel
theorem d_MD_copy_63 : decode b_MD_copy 63 = .ok (.getfield 7, 3) := by decide +kernel
theorem d_MD_copy_66 : decode b_MD_copy 66 = .ok (.iload_n 2, 1) := by decide +kernel
theorem d_MD_copy_67 : decode b_MD_copy 67 = .ok (.iconst 1, 1) := by decide +kernel
theorem d_MD_copy_68 : decode b_MD_copy 68 = .ok (.iastore, 1) := by decide +kernel
theorem d_MD_copy_69 : decode b_MD_copy 69 = .ok (.aload_n 0, 1) := by decide +kernel
theorem d_MD_copy_70 : decode b_MD_copy 70 = .ok (.getfield 20, 3) := by decide +kernel
theorem d_MD_copy_73 : decode b_MD_copy 73 = .ok (.iload_n 2, 1) := by decide +kernel
theorem d_MD_copy_74 : decode b_MD_copy 74 = .ok (.aload_n 0, 1) := by decide +kernel
theorem d_MD_copy_75 : decode b_MD_copy 75 = .ok (.getfield 20, 3) := by decide +kernel
theorem d_MD_copy_78 : decode b_MD_copy 78 = .ok (.iload_n 1, 1) := by decide +kernel
theorem d_MD_copy_79 : decode b_MD_copy 79 = .ok (.iaload, 1) := by decide +kernel
theorem d_MD_copy_80 : decode b_MD_copy 80 = .ok (.iastore, 1) := by decide +kernel
theorem d_MD_copy_81 : decode b_MD_copy 81 = .ok (.iconst 0, 1) := by decide +kernel
theorem d_MD_copy_82 : decode b_MD_copy 82 = .ok (.istore_n 3, 1) := by decide +kernel
theorem d_MD_copy_83 : decode b_MD_copy 83 = .ok (.iload_n 3, 1) := by decide +kernel
theorem d_MD_copy_84 : decode b_MD_copy 84 = .ok (.aload_n 0, 1) := by decide +kernel
theorem d_MD_copy_85 : decode b_MD_copy 85 = .ok (.getfield 20, 3) := by decide +kernel
theorem d_MD_copy_88 : decode b_MD_copy 88 = .ok (.iload_n 1, 1) := by decide +kernel
theorem d_MD_copy_89 : decode b_MD_copy 89 = .ok (.iaload, 1) := by decide +kernel
theorem d_MD_copy_90 : decode b_MD_copy 90 = .ok (.if_icmp .ge 47, 3) := by decide +kernel
theorem d_MD_copy_93 : decode b_MD_copy 93 = .ok (.aload_n 0, 1) := by decide +kernel
theorem d_MD_copy_94 : decode b_MD_copy 94 = .ok (.getfield 17, 3) := by decide +kernel
theorem d_MD_copy_97 : decode b_MD_copy 97 = .ok (.iconst 3, 1) := by decide +kernel
theorem d_MD_copy_98 : decode b_MD_copy 98 = .ok (.iload_n 2, 1) := by decide +kernel
theorem d_MD_copy_99 : decode b_MD_copy 99 = .ok (.imul, 1) := by decide +kernel
theorem d_MD_copy_100 : decode b_MD_copy 100 = .ok (.iload_n 3, 1) := by decide +kernel
theorem d_MD_copy_101 : decode b_MD_copy 101 = .ok (.iadd, 1) := by decide +kernel
theorem d_MD_copy_102 : decode b_MD_copy 102 = .ok (.aload_n 0, 1) := by decide +kernel
theorem d_MD_copy_103 : decode b_MD_copy 103 = .ok (.getfield 17, 3) := by decide +kernel
theorem d_MD_copy_106 : decode b_MD_copy 106 = .ok (.iconst 3, 1) := by decide +kernel
theorem d_MD_copy_107 : decode b_MD_copy 107 = .ok (.iload_n 1, 1) := by decide +kernel
theorem d_MD_copy_108 : decode b_MD_copy 108 = .ok (.imul, 1) := by decide +kernel
theorem d_MD_copy_109 : decode b_MD_copy 109 = .ok (.iload_n 3, 1) := by decide +kernel
theorem d_MD_copy_110 : decode b_MD_copy 110 = .ok (.iadd, 1) := by decide +kernel
theorem d_MD_copy_111 : decode b_MD_copy 111 = .ok (.iaload, 1) := by decide +kernel
theorem d_MD_copy_112 : decode b_MD_copy 112 = .ok (.iastore, 1) := by decide +kernel
theorem d_MD_copy_113 : decode b_MD_copy 113 = .ok (.aload_n 0, 1) := by decide +kernel
theorem d_MD_copy_114 : decode b_MD_copy 114 = .ok (.getfield 29, 3) := by decide +kernel
theorem d_MD_copy_117 : decode b_MD_copy 117 = .ok (.aload_n 0, 1) := by decide +kernel
theorem d_MD_copy_118 : decode b_MD_copy 118 = .ok (.getfield 17, 3) := by decide +kernel
theorem d_MD_copy_121 : decode b_MD_copy 121 = .ok (.iconst 3, 1) := by decide +kernel
theorem d_MD_copy_122 : decode b_MD_copy 122 = .ok (.iload_n 1, 1) := by decide +kernel
theorem d_MD_copy_123 : decode b_MD_copy 123 = .ok (.imul, 1) := by decide +kernel
theorem d_MD_copy_124 : decode b_MD_copy 124 = .ok (.iload_n 3, 1) := by decide +kernel
theorem d_MD_copy_125 : decode b_MD_copy 125 = .ok (.iadd, 1) := by decide +kernel
theorem d_MD_copy_126 : decode b_MD_copy 126 = .ok (.iaload, 1) := by decide +kernel
theorem d_MD_copy_127 : decode b_MD_copy 127 = .ok (.ldc2_w 57, 3) := by decide +kernel
theorem d_MD_copy_130 : decode b_MD_copy 130 = .ok (.dastore, 1) := by decide +kernel
theorem d_MD_copy_131 : decode b_MD_copy 131 = .ok (.iinc 3 1, 3) := by decide +kernel
theorem d_MD_copy_134 : decode b_MD_copy 134 = .ok (.goto (-51), 3) := by decide +kernel
theorem d_MD_copy_137 : decode b_MD_copy 137 = .ok (.aload_n 0, 1) := by decide +kernel
theorem d_MD_copy_138 : decode b_MD_copy 138 = .ok (.getfield 20, 3) := by decide +kernel
theorem d_MD_copy_141 : decode b_MD_copy 141 = .ok (.iload_n 2, 1) := by decide +kernel
theorem d_MD_copy_142 : decode b_MD_copy 142 = .ok (.iaload, 1) := by decide +kernel
theorem d_MD_copy_143 : decode b_MD_copy 143 = .ok (.ireturn, 1) := by decide +kernel
theorem d_MD_extend_0 : decode b_MD_extend 0 = .ok (.aload_n 0, 1) := by decide +kernel
theorem d_MD_extend_1 : decode b_MD_extend 1 = .ok (.iconst 0, 1) := by decide +kernel
theorem d_MD_extend_2 : decode b_MD_extend 2 = .ok (.putfield 59, 3) := by decide +kernel
theorem d_MD_extend_5 : decode b_MD_extend 5 = .ok (.aload_n 0, 1) := by decide +kernel
theorem d_MD_extend_6 : decode b_MD_extend 6 = .ok (.iload_n 1, 1) := by decide +kernel
theorem d_MD_extend_7 : decode b_MD_extend 7 = .ok (.bipush 8, 2) := by decide +kernel
theorem d_MD_extend_9 : decode b_MD_extend 9 = .ok (.invokevirtual 63, 3) := by decide +kernel
theorem d_MD_extend_12 : decode b_MD_extend 12 = .ok (.ifCond .eq 9, 3) := by decide +kernel
theorem d_MD_extend_15 : decode b_MD_extend 15 = .ok (.aload_n 0, 1) := by decide +kernel
theorem d_MD_extend_16 : decode b_MD_extend 16 = .ok (.iconst 1, 1) := by decide +kernel
theorem d_MD_extend_17 : decode b_MD_extend 17 = .ok (.invokevirtual 67, 3) := by decide +kernel
theorem d_MD_extend_20 : decode b_MD_extend 20 = .ok (.ireturn, 1) := by decide +kernel
theorem d_MD_extend_21 : decode b_MD_extend 21 = .ok (.aload_n 0, 1) := by decide +kernel
theorem d_MD_extend_22 : decode b_MD_extend 22 = .ok (.getfield 7, 3) := by decide +kernel
theorem d_MD_extend_25 : decode b_MD_extend 25 = .ok (.iload_n 1, 1) := by decide +kernel
theorem d_MD_extend_26 : decode b_MD_extend 26 = .ok (.iaload, 1) := by decide +kernel
theorem d_MD_extend_27 : decode b_MD_extend 27 = .ok (.iconst 1, 1) := by decide +kernel
theorem d_MD_extend_28 : decode b_MD_extend 28 = .ok (.if_icmp .eq 9, 3) := by decide +kernel
theorem d_MD_extend_31 : decode b_MD_extend 31 = .ok (.aload_n 0, 1) := by decide +kernel
theorem d_MD_extend_32 : decode b_MD_extend 32 = .ok (.iconst 2, 1) := by decide +kernel
theorem d_MD_extend_33 : decode b_MD_extend 33 = .ok (.invokevirtual 67, 3) := by decide +kernel
theorem d_MD_extend_36 : decode b_MD_extend 36 = .ok (.ireturn, 1) := by decide +kernel
theorem d_MD_extend_37 : decode b_MD_extend 37 = .ok (.aload_n 0, 1) := by decide +kernel
theorem d_MD_extend_38 : decode b_MD_extend 38 = .ok (.iload_n 1, 1) := by decide +kernel
theorem d_MD_extend_39 : decode b_MD_extend 39 = .ok (.invokevirtual 89, 3) := by decide +kernel
theorem d_MD_extend_42 : decode b_MD_extend 42 = .ok (.istore_n 2, 1) := by decide +kernel
theorem d_MD_extend_43 : decode b_MD_extend 43 = .ok (.iload_n 2, 1) := by decide +kernel
theorem d_MD_extend_44 : decode b_MD_extend 44 = .ok (.ifCond .le 18, 3) := by decide +kernel
theorem d_MD_extend_47 : decode b_MD_extend 47 = .ok (.aload_n 0, 1) := by decide +kernel
theorem d_MD_extend_48 : decode b_MD_extend 48 = .ok (.iload_n 2, 1) := by decide +kernel
theorem d_MD_extend_49 : decode b_MD_extend 49 = .ok (.iconst 1, 1) := by decide +kernel
theorem d_MD_extend_50 : decode b_MD_extend 50 = .ok (.if_icmp .ne 7, 3) := by decide +kernel
theorem d_MD_extend_53 : decode b_MD_extend 53 = .ok (.iconst 4, 1) := by decide +kernel
theorem d_MD_extend_54 : decode b_MD_extend 54 = .ok (.goto 4, 3) := by decide +kernel
theorem d_MD_extend_57 : decode b_MD_extend 57 = .ok (.iconst 3, 1) := by decide +kernel
theorem d_MD_extend_58 : decode b_MD_extend 58 = .ok (.invokevirtual 67, 3) := by decide +kernel
theorem d_MD_extend_61 : decode b_MD_extend 61 = .ok (.ireturn, 1) := by decide +kernel
theorem d_MD_extend_62 : decode b_MD_extend 62 = .ok (.aload_n 0, 1) := by decide +kernel
theorem d_MD_extend_63 : decode b_MD_extend 63 = .ok (.getfield 78, 3) := by decide +kernel
theorem d_MD_extend_66 : decode b_MD_extend 66 = .ok (.iconst 1, 1) := by decide +kernel
theorem d_MD_extend_67 : decode b_MD_extend 67 = .ok (.isub, 1) := by decide +kernel
theorem d_MD_extend_68 : decode b_MD_extend 68 = .ok (.ireturn, 1) := by decide +kernel
theorem d_MD_makeChunk_0 : decode b_MD_makeChunk 0 = .ok (.aload_n 0, 1) := by decide +kernel
theorem d_MD_makeChunk_1 : decode b_MD_makeChunk 1 = .ok (.getfield 78, 3) := by decide +kernel
theorem d_MD_makeChunk_4 : decode b_MD_makeChunk 4 = .ok (.bipush 30, 2) := by decide +kernel
theorem d_MD_makeChunk_6 : decode b_MD_makeChunk 6 = .ok (.if_icmp .eq 13, 3) := by decide +kernel
theorem d_MD_makeChunk_9 : decode b_MD_makeChunk 9 = .ok (.aload_n 0, 1) := by decide +kernel
theorem d_MD_makeChunk_10 : decode b_MD_makeChunk 10 = .ok (.getfield 20, 3) := by decide +kernel
theorem d_MD_makeChunk_13 : decode b_MD_makeChunk 13 = .ok (.iload_n 1, 1) := by decide +kernel
theorem d_MD_makeChunk_14 : decode b_MD_makeChunk 14 = .ok (.iaload, 1) := by decide +kernel
theorem d_MD_makeChunk_15 : decode b_MD_makeChunk 15 = .ok (.iconst 3, 1) := by decide +kernel
theorem d_MD_makeChunk_16 : decode b_MD_makeChunk 16 = .ok (.if_icmp .ne 5, 3) := by decide +kernel
theorem d_MD_makeChunk_19 : decode b_MD_makeChunk 19 = .ok (.iconst 1, 1) := by decide +kernel
theorem d_MD_makeChunk_20 : decode b_MD_makeChunk 20 = .ok (.ireturn, 1) := by decide +kernel
theorem d_MD_makeChunk_21 : decode b_MD_makeChunk 21 = .ok (.iconst 0, 1) := by decide +kernel
theorem d_MD_makeChunk_22 : decode b_MD_makeChunk 22 = .ok (.istore_n 2, 1) := by decide +kernel
theorem d_MD_makeChunk_23 : decode b_MD_makeChunk 23 = .ok (.iconst 0, 1) := by decide +kernel
theorem d_MD_makeChunk_24 : decode b_MD_makeChunk 24 = .ok (.istore_n 3, 1) := by decide +kernel
theorem d_MD_makeChunk_25 : decode b_MD_makeChunk 25 = .ok (.iload_n 3, 1) := by decide +kernel
theorem d_MD_makeChunk_26 : decode b_MD_makeChunk 26 = .ok (.iconst 3, 1) := by decide +kernel
theorem d_MD_makeChunk_27 : decode b_MD_makeChunk 27 = .ok (.if_icmp .ge 30, 3) := by decide +kernel
theorem d_MD_makeChunk_30 : decode b_MD_makeChunk 30 = .ok (.aload_n 0, 1) := by decide +kernel
theorem d_MD_makeChunk_31 : decode b_MD_makeChunk 31 = .ok (.bipush 30, 2) := by decide +kernel
theorem d_MD_makeChunk_33 : decode b_MD_makeChunk 33 = .ok (.iload_n 2, 1) := by decide +kernel
theorem d_MD_makeChunk_34 : decode b_MD_makeChunk 34 = .ok (.invokevirtual 81, 3) := by decide +kernel
theorem d_MD_makeChunk_37 : decode b_MD_makeChunk 37 = .ok (.istore 4, 2) := by decide +kernel
theorem d_MD_makeChunk_39 : decode b_MD_makeChunk 39 = .ok (.iload 4, 2) := by decide +kernel
theorem d_MD_makeChunk_41 : decode b_MD_makeChunk 41 = .ok (.ifCond .lt 10, 3) := by decide +kernel
theorem d_MD_makeChunk_44 : decode b_MD_makeChunk 44 = .ok (.iload_n 2, 1) := by decide +kernel
theorem d_MD_makeChunk_45 : decode b_MD_makeChunk 45 = .ok (.iconst 1, 1) := by decide +kernel
theorem d_MD_makeChunk_46 : decode b_MD_makeChunk 46 = .ok (.iload 4, 2) := by decide +kernel
theorem d_MD_makeChunk_48 : decode b_MD_makeChunk 48 = .ok (.ishl, 1) := by decide +kernel
theorem d_MD_makeChunk_49 : decode b_MD_makeChunk 49 = .ok (.ior, 1) := by decide +kernel
theorem d_MD_makeChunk_50 : decode b_MD_makeChunk 50 = .ok (.istore_n 2, 1) := by decide +kernel
theorem d_MD_makeChunk_51 : decode b_MD_makeChunk 51 = .ok (.iinc 3 1, 3) := by decide +kernel
theorem d_MD_makeChunk_54 : decode b_MD_makeChunk 54 = .ok (.goto (-29), 3) := by decide +kernel
theorem d_MD_makeChunk_57 : decode b_MD_makeChunk 57 = .ok (.iload_n 2, 1) := by decide +kernel
theorem d_MD_makeChunk_58 : decode b_MD_makeChunk 58 = .ok (.ifCond .ne 5, 3) := by decide +kernel
theorem d_MD_makeChunk_61 : decode b_MD_makeChunk 61 = .ok (.iconst 2, 1) := by decide +kernel
theorem d_MD_makeChunk_62 : decode b_MD_makeChunk 62 = .ok (.ireturn, 1) := by decide +kernel
theorem d_MD_makeChunk_63 : decode b_MD_makeChunk 63 = .ok (.aload_n 0, 1) := by decide +kernel
theorem d_MD_makeChunk_64 : decode b_MD_makeChunk 64 = .ok (.getfield 23, 3) := by decide +kernel
theorem d_MD_makeChunk_67 : decode b_MD_makeChunk 67 = .ok (.aload_n 0, 1) := by decide +kernel
theorem d_MD_makeChunk_68 : decode b_MD_makeChunk 68 = .ok (.getfield 78, 3) := by decide +kernel
theorem d_MD_makeChunk_71 : decode b_MD_makeChunk 71 = .ok (.iconst 1, 1) := by decide +kernel
theorem d_MD_makeChunk_72 : decode b_MD_makeChunk 72 = .ok (.iastore, 1) := by decide +kernel
theorem d_MD_makeChunk_73 : decode b_MD_makeChunk 73 = .ok (.aload_n 0, 1) := by decide +kernel
theorem d_MD_makeChunk_74 : decode b_MD_makeChunk 74 = .ok (.getfield 26, 3) := by decide +kernel
theorem d_MD_makeChunk_77 : decode b_MD_makeChunk 77 = .ok (.aload_n 0, 1) := by decide +kernel
theorem d_MD_makeChunk_78 : decode b_MD_makeChunk 78 = .ok (.getfield 78, 3) := by decide +kernel
theorem d_MD_makeChunk_81 : decode b_MD_makeChunk 81 = .ok (.iload_n 2, 1) := by decide +kernel
theorem d_MD_makeChunk_82 : decode b_MD_makeChunk 82 = .ok (.iastore, 1) := by decide +kernel
theorem d_MD_makeChunk_83 : decode b_MD_makeChunk 83 = .ok (.iconst 0, 1) := by decide +kernel
theorem d_MD_makeChunk_84 : decode b_MD_makeChunk 84 = .ok (.istore_n 3, 1) := by decide +kernel
theorem d_MD_makeChunk_85 : decode b_MD_makeChunk 85 = .ok (.iload_n 3, 1) := by decide +kernel
theorem d_MD_makeChunk_86 : decode b_MD_makeChunk 86 = .ok (.iconst 5, 1) := by decide +kernel
theorem d_MD_makeChunk_87 : decode b_MD_makeChunk 87 = .ok (.if_icmp .ge 32, 3) := by decide +kernel
theorem d_MD_makeChunk_90 : decode b_MD_makeChunk 90 = .ok (.iload_n 2, 1) := by decide +kernel
theorem d_MD_makeChunk_91 : decode b_MD_makeChunk 91 = .ok (.iload_n 3, 1) := by decide +kernel
theorem d_MD_makeChunk_92 : decode b_MD_makeChunk 92 = .ok (.ishr, 1) := by decide +kernel
theorem d_MD_makeChunk_93 : decode b_MD_makeChunk 93 = .ok (.iconst 1, 1) := by decide +kernel
theorem d_MD_makeChunk_94 : decode b_MD_makeChunk 94 = .ok (.iand, 1) := by decide +kernel
theorem d_MD_makeChunk_95 : decode b_MD_makeChunk 95 = .ok (.ifCond .eq 18, 3) := by decide +kernel
theorem d_MD_makeChunk_98 : decode b_MD_makeChunk 98 = .ok (.aload_n 0, 1) := by decide +kernel
theorem d_MD_makeChunk_99 : decode b_MD_makeChunk 99 = .ok (.bipush 30, 2) := by decide +kernel
theorem d_MD_makeChunk_101 : decode b_MD_makeChunk 101 = .ok (.iload_n 3, 1) := by decide +kernel
theorem d_MD_makeChunk_102 : decode b_MD_makeChunk 102 = .ok (.imul, 1) := by decide +kernel
theorem d_MD_makeChunk_103 : decode b_MD_makeChunk 103 = .ok (.aload_n 0, 1) := by decide +kernel
theorem d_MD_makeChunk_104 : decode b_MD_makeChunk 104 = .ok (.getfield 78, 3) := by decide +kernel
theorem d_MD_makeChunk_107 : decode b_MD_makeChunk 107 = .ok (.iadd, 1) := by decide +kernel
theorem d_MD_makeChunk_108 : decode b_MD_makeChunk 108 = .ok (.iconst (-1), 1) := by decide +kernel
theorem d_MD_makeChunk_109 : decode b_MD_makeChunk 109 = .ok (.iconst 1, 1) := by decide +kernel
theorem d_MD_makeChunk_110 : decode b_MD_makeChunk 110 = .ok (.invokevirtual 85, 3) := by decide +kernel
theorem d_MD_makeChunk_113 : decode b_MD_makeChunk 113 = .ok (.iinc 3 1, 3) := by decide +kernel
theorem d_MD_makeChunk_116 : decode b_MD_makeChunk 116 = .ok (.goto (-31), 3) := by decide +kernel
theorem d_MD_makeChunk_119 : decode b_MD_makeChunk 119 = .ok (.aload_n 0, 1) := by decide +kernel
theorem d_MD_makeChunk_120 : decode b_MD_makeChunk 120 = .ok (.getfield 17, 3) := by decide +kernel
theorem d_MD_makeChunk_123 : decode b_MD_makeChunk 123 = .ok (.iconst 3, 1) := by decide +kernel
theorem d_MD_makeChunk_124 : decode b_MD_makeChunk 124 = .ok (.iload_n 1, 1) := by decide +kernel
theorem d_MD_makeChunk_125 : decode b_MD_makeChunk 125 = .ok (.imul, 1) := by decide +kernel
theorem d_MD_makeChunk_126 : decode b_MD_makeChunk 126 = .ok (.aload_n 0, 1) := by decide +kernel
theorem d_MD_makeChunk_127 : decode b_MD_makeChunk 127 = .ok (.getfield 20, 3) := by decide +kernel
theorem d_MD_makeChunk_130 : decode b_MD_makeChunk 130 = .ok (.iload_n 1, 1) := by decide +kernel
theorem d_MD_makeChunk_131 : decode b_MD_makeChunk 131 = .ok (.iaload, 1) := by decide +kernel
theorem d_MD_makeChunk_132 : decode b_MD_makeChunk 132 = .ok (.iadd, 1) := by decide +kernel
theorem d_MD_makeChunk_133 : decode b_MD_makeChunk 133 = .ok (.aload_n 0, 1) := by decide +kernel
theorem d_MD_makeChunk_134 : decode b_MD_makeChunk 134 = .ok (.getfield 78, 3) := by decide +kernel
theorem d_MD_makeChunk_137 : decode b_MD_makeChunk 137 = .ok (.iastore, 1) := by decide +kernel
theorem d_MD_makeChunk_138 : decode b_MD_makeChunk 138 = .ok (.aload_n 0, 1) := by decide +kernel
theorem d_MD_makeChunk_139 : decode b_MD_makeChunk 139 = .ok (.getfield 20, 3) := by decide +kernel
theorem d_MD_makeChunk_142 : decode b_MD_makeChunk 142 = .ok (.iload_n 1, 1) := by decide +kernel
theorem d_MD_makeChunk_143 : decode b_MD_makeChunk 143 = .ok (.dup2, 1) := by decide +kernel
theorem d_MD_makeChunk_144 : decode b_MD_makeChunk 144 = .ok (.iaload, 1) := by decide +kernel
theorem d_MD_makeChunk_145 : decode b_MD_makeChunk 145 = .ok (.iconst 1, 1) := by decide +kernel
theorem d_MD_makeChunk_146 : decode b_MD_makeChunk 146 = .ok (.iadd, 1) := by decide +kernel
theorem d_MD_makeChunk_147 : decode b_MD_makeChunk 147 = .ok (.iastore, 1) := by decide +kernel
theorem d_MD_makeChunk_148 : decode b_MD_makeChunk 148 = .ok (.aload_n 0, 1) := by decide +kernel
theorem d_MD_makeChunk_149 : decode b_MD_makeChunk 149 = .ok (.dup, 1) := by decide +kernel
theorem d_MD_makeChunk_150 : decode b_MD_makeChunk 150 = .ok (.getfield 78, 3) := by decide +kernel
theorem d_MD_makeChunk_153 : decode b_MD_makeChunk 153 = .ok (.iconst 1, 1) := by decide +kernel
theorem d_MD_makeChunk_154 : decode b_MD_makeChunk 154 = .ok (.iadd, 1) := by decide +kernel
theorem d_MD_makeChunk_155 : decode b_MD_makeChunk 155 = .ok (.putfield 78, 3) := by decide +kernel
theorem d_MD_makeChunk_158 : decode b_MD_makeChunk 158 = .ok (.iconst 0, 1) := by decide +kernel
theorem d_MD_makeChunk_159 : decode b_MD_makeChunk 159 = .ok (.ireturn, 1) := by decide +kernel
theorem d_MD_choose_0 : decode b_MD_choose 0 = .ok (.iconst (-1), 1) := by decide +kernel
theorem d_MD_choose_1 : decode b_MD_choose 1 = .ok (.istore_n 3, 1) := by decide +kernel
theorem d_MD_choose_2 : decode b_MD_choose 2 = .ok (.iconst 0, 1) := by decide +kernel
theorem d_MD_choose_3 : decode b_MD_choose 3 = .ok (.istore 4, 2) := by decide +kernel
theorem d_MD_choose_5 : decode b_MD_choose 5 = .ok (.iload 4, 2) := by decide +kernel
theorem d_MD_choose_7 : decode b_MD_choose 7 = .ok (.iconst 5, 1) := by decide +kernel
theorem d_MD_choose_8 : decode b_MD_choose 8 = .ok (.if_icmp .ge 93, 3) := by decide +kernel
theorem d_MD_choose_11 : decode b_MD_choose 11 = .ok (.aload_n 0, 1) := by decide +kernel
theorem d_MD_choose_12 : decode b_MD_choose 12 = .ok (.getfield 32, 3) := by decide +kernel
theorem d_MD_choose_15 : decode b_MD_choose 15 = .ok (.iload 4, 2) := by decide +kernel
theorem d_MD_choose_17 : decode b_MD_choose 17 = .ok (.baload, 1) := by decide +kernel
theorem d_MD_choose_18 : decode b_MD_choose 18 = .ok (.ifCond .ne 48, 3) := by decide +kernel
theorem d_MD_choose_21 : decode b_MD_choose 21 = .ok (.aload_n 0, 1) := by decide +kernel
theorem d_MD_choose_22 : decode b_MD_choose 22 = .ok (.iload 4, 2) := by decide +kernel
theorem d_MD_choose_24 : decode b_MD_choose 24 = .ok (.invokevirtual 75, 3) := by decide +kernel
theorem d_MD_choose_27 : decode b_MD_choose 27 = .ok (.bipush 12, 2) := by decide +kernel
theorem d_MD_choose_29 : decode b_MD_choose 29 = .ok (.if_icmp .ge 37, 3) := by decide +kernel
theorem d_MD_choose_32 : decode b_MD_choose 32 = .ok (.iload_n 2, 1) := by decide +kernel
theorem d_MD_choose_33 : decode b_MD_choose 33 = .ok (.iload 4, 2) := by decide +kernel
theorem d_MD_choose_35 : decode b_MD_choose 35 = .ok (.ishr, 1) := by decide +kernel
theorem d_MD_choose_36 : decode b_MD_choose 36 = .ok (.iconst 1, 1) := by decide +kernel
theorem d_MD_choose_37 : decode b_MD_choose 37 = .ok (.iand, 1) := by decide +kernel
theorem d_MD_choose_38 : decode b_MD_choose 38 = .ok (.ifCond .ne 28, 3) := by decide +kernel
theorem d_MD_choose_41 : decode b_MD_choose 41 = .ok (.iload_n 1, 1) := by decide +kernel
theorem d_MD_choose_42 : decode b_MD_choose 42 = .ok (.bipush 30, 2) := by decide +kernel
theorem d_MD_choose_44 : decode b_MD_choose 44 = .ok (.if_icmp .eq 18, 3) := by decide +kernel
theorem d_MD_choose_47 : decode b_MD_choose 47 = .ok (.aload_n 0, 1) := by decide +kernel
theorem d_MD_choose_48 : decode b_MD_choose 48 = .ok (.getfield 36, 3) := by decide +kernel
theorem d_MD_choose_51 : decode b_MD_choose 51 = .ok (.bipush 30, 2) := by decide +kernel
theorem d_MD_choose_53 : decode b_MD_choose 53 = .ok (.iload 4, 2) := by decide +kernel
theorem d_MD_choose_55 : decode b_MD_choose 55 = .ok (.imul, 1) := by decide +kernel
theorem d_MD_choose_56 : decode b_MD_choose 56 = .ok (.iload_n 1, 1) := by decide +kernel
theorem d_MD_choose_57 : decode b_MD_choose 57 = .ok (.iadd, 1) := by decide +kernel
theorem d_MD_choose_58 : decode b_MD_choose 58 = .ok (.iaload, 1) := by decide +kernel
theorem d_MD_choose_59 : decode b_MD_choose 59 = .ok (.ifCond .ne 7, 3) := by decide +kernel
theorem d_MD_choose_62 : decode b_MD_choose 62 = .ok (.iconst 1, 1) := by decide +kernel
theorem d_MD_choose_63 : decode b_MD_choose 63 = .ok (.goto 4, 3) := by decide +kernel
theorem d_MD_choose_66 : decode b_MD_choose 66 = .ok (.iconst 0, 1) := by decide +kernel
theorem d_MD_choose_67 : decode b_MD_choose 67 = .ok (.istore 5, 2) := by decide +kernel
theorem d_MD_choose_69 : decode b_MD_choose 69 = .ok (.iload 5, 2) := by decide +kernel
theorem d_MD_choose_71 : decode b_MD_choose 71 = .ok (.ifCond .eq 24, 3) := by decide +kernel
theorem d_MD_choose_74 : decode b_MD_choose 74 = .ok (.iload_n 3, 1) := by decide +kernel
theorem d_MD_choose_75 : decode b_MD_choose 75 = .ok (.ifCond .lt 17, 3) := by decide +kernel
theorem d_MD_choose_78 : decode b_MD_choose 78 = .ok (.aload_n 0, 1) := by decide +kernel
theorem d_MD_choose_79 : decode b_MD_choose 79 = .ok (.iload 4, 2) := by decide +kernel
theorem d_MD_choose_81 : decode b_MD_choose 81 = .ok (.invokevirtual 75, 3) := by decide +kernel
theorem d_MD_choose_84 : decode b_MD_choose 84 = .ok (.aload_n 0, 1) := by decide +kernel
theorem d_MD_choose_85 : decode b_MD_choose 85 = .ok (.iload_n 3, 1) := by decide +kernel
theorem d_MD_choose_86 : decode b_MD_choose 86 = .ok (.invokevirtual 75, 3) := by decide +kernel
theorem d_MD_choose_89 : decode b_MD_choose 89 = .ok (.if_icmp .ge 6, 3) := by decide +kernel
theorem d_MD_choose_92 : decode b_MD_choose 92 = .ok (.iload 4, 2) := by decide +kernel
theorem d_MD_choose_94 : decode b_MD_choose 94 = .ok (.istore_n 3, 1) := by decide +kernel
theorem d_MD_choose_95 : decode b_MD_choose 95 = .ok (.iinc 4 1, 3) := by decide +kernel
theorem d_MD_choose_98 : decode b_MD_choose 98 = .ok (.goto (-93), 3) := by decide +kernel
theorem d_MD_choose_101 : decode b_MD_choose 101 = .ok (.iload_n 3, 1) := by decide +kernel
theorem d_MD_choose_102 : decode b_MD_choose 102 = .ok (.ireturn, 1) := by decide +kernel
theorem d_MD_loadOf_0 : decode b_MD_loadOf 0 = .ok (.iconst 0, 1) := by decide +kernel
theorem d_MD_loadOf_1 : decode b_MD_loadOf 1 = .ok (.istore_n 2, 1) := by decide +kernel
theorem d_MD_loadOf_2 : decode b_MD_loadOf 2 = .ok (.iconst 0, 1) := by decide +kernel
theorem d_MD_loadOf_3 : decode b_MD_loadOf 3 = .ok (.istore_n 3, 1) := by decide +kernel
theorem d_MD_loadOf_4 : decode b_MD_loadOf 4 = .ok (.iload_n 3, 1) := by decide +kernel
theorem d_MD_loadOf_5 : decode b_MD_loadOf 5 = .ok (.bipush 30, 2) := by decide +kernel
theorem d_MD_loadOf_7 : decode b_MD_loadOf 7 = .ok (.if_icmp .ge 31, 3) := by decide +kernel
theorem d_MD_loadOf_10 : decode b_MD_loadOf 10 = .ok (.iload_n 2, 1) := by decide +kernel
theorem d_MD_loadOf_11 : decode b_MD_loadOf 11 = .ok (.aload_n 0, 1) := by decide +kernel
theorem d_MD_loadOf_12 : decode b_MD_loadOf 12 = .ok (.getfield 36, 3) := by decide +kernel
theorem d_MD_loadOf_15 : decode b_MD_loadOf 15 = .ok (.bipush 30, 2) := by decide +kernel
theorem d_MD_loadOf_17 : decode b_MD_loadOf 17 = .ok (.iload_n 1, 1) := by decide +kernel
theorem d_MD_loadOf_18 : decode b_MD_loadOf 18 = .ok (.imul, 1) := by decide +kernel
theorem d_MD_loadOf_19 : decode b_MD_loadOf 19 = .ok (.iload_n 3, 1) := by decide +kernel
theorem d_MD_loadOf_20 : decode b_MD_loadOf 20 = .ok (.iadd, 1) := by decide +kernel
theorem d_MD_loadOf_21 : decode b_MD_loadOf 21 = .ok (.iaload, 1) := by decide +kernel
theorem d_MD_loadOf_22 : decode b_MD_loadOf 22 = .ok (.ifCond .le 7, 3) := by decide +kernel
theorem d_MD_loadOf_25 : decode b_MD_loadOf 25 = .ok (.iconst 1, 1) := by decide +kernel
theorem d_MD_loadOf_26 : decode b_MD_loadOf 26 = .ok (.goto 4, 3) := by decide +kernel
theorem d_MD_loadOf_29 : decode b_MD_loadOf 29 = .ok (.iconst 0, 1) := by decide +kernel
theorem d_MD_loadOf_30 : decode b_MD_loadOf 30 = .ok (.iadd, 1) := by decide +kernel
theorem d_MD_loadOf_31 : decode b_MD_loadOf 31 = .ok (.istore_n 2, 1) := by decide +kernel
theorem d_MD_loadOf_32 : decode b_MD_loadOf 32 = .ok (.iinc 3 1, 3) := by decide +kernel
theorem d_MD_loadOf_35 : decode b_MD_loadOf 35 = .ok (.goto (-31), 3) := by decide +kernel
theorem d_MD_loadOf_38 : decode b_MD_loadOf 38 = .ok (.iload_n 2, 1) := by decide +kernel
theorem d_MD_loadOf_39 : decode b_MD_loadOf 39 = .ok (.ireturn, 1) := by decide +kernel
theorem d_MD_place_0 : decode b_MD_place 0 = .ok (.aload_n 0, 1) := by decide +kernel
theorem d_MD_place_1 : decode b_MD_place 1 = .ok (.getfield 36, 3) := by decide +kernel
theorem d_MD_place_4 : decode b_MD_place 4 = .ok (.iload_n 1, 1) := by decide +kernel
theorem d_MD_place_5 : decode b_MD_place 5 = .ok (.iload_n 3, 1) := by decide +kernel
theorem d_MD_place_6 : decode b_MD_place 6 = .ok (.iastore, 1) := by decide +kernel
theorem d_MD_place_7 : decode b_MD_place 7 = .ok (.aload_n 0, 1) := by decide +kernel
theorem d_MD_place_8 : decode b_MD_place 8 = .ok (.getfield 39, 3) := by decide +kernel
theorem d_MD_place_11 : decode b_MD_place 11 = .ok (.iload_n 1, 1) := by decide +kernel
theorem d_MD_place_12 : decode b_MD_place 12 = .ok (.iload_n 2, 1) := by decide +kernel
theorem d_MD_place_13 : decode b_MD_place 13 = .ok (.ifCond .ge 7, 3) := by decide +kernel
theorem d_MD_place_16 : decode b_MD_place 16 = .ok (.iconst 0, 1) := by decide +kernel
theorem d_MD_place_17 : decode b_MD_place 17 = .ok (.goto 9, 3) := by decide +kernel
theorem d_MD_place_20 : decode b_MD_place 20 = .ok (.aload_n 0, 1) := by decide +kernel
theorem d_MD_place_21 : decode b_MD_place 21 = .ok (.getfield 39, 3) := by decide +kernel
theorem d_MD_place_24 : decode b_MD_place 24 = .ok (.iload_n 2, 1) := by decide +kernel
theorem d_MD_place_25 : decode b_MD_place 25 = .ok (.iaload, 1) := by decide +kernel
theorem d_MD_place_26 : decode b_MD_place 26 = .ok (.iastore, 1) := by decide +kernel
theorem d_MD_place_27 : decode b_MD_place 27 = .ok (.iconst 0, 1) := by decide +kernel
theorem d_MD_place_28 : decode b_MD_place 28 = .ok (.istore 4, 2) := by decide +kernel
theorem d_MD_place_30 : decode b_MD_place 30 = .ok (.iload 4, 2) := by decide +kernel
theorem d_MD_place_32 : decode b_MD_place 32 = .ok (.iconst 4, 1) := by decide +kernel
theorem d_MD_place_33 : decode b_MD_place 33 = .ok (.if_icmp .ge 39, 3) := by decide +kernel
theorem d_MD_place_36 : decode b_MD_place 36 = .ok (.aload_n 0, 1) := by decide +kernel
theorem d_MD_place_37 : decode b_MD_place 37 = .ok (.getfield 42, 3) := by decide +kernel
theorem d_MD_place_40 : decode b_MD_place 40 = .ok (.iconst 4, 1) := by decide +kernel
theorem d_MD_place_41 : decode b_MD_place 41 = .ok (.iload_n 1, 1) := by decide +kernel
theorem d_MD_place_42 : decode b_MD_place 42 = .ok (.imul, 1) := by decide +kernel
theorem d_MD_place_43 : decode b_MD_place 43 = .ok (.iload 4, 2) := by decide +kernel
theorem d_MD_place_45 : decode b_MD_place 45 = .ok (.iadd, 1) := by decide +kernel
theorem d_MD_place_46 : decode b_MD_place 46 = .ok (.iload_n 2, 1) := by decide +kernel
theorem d_MD_place_47 : decode b_MD_place 47 = .ok (.ifCond .ge 7, 3) := by decide +kernel
theorem d_MD_place_50 : decode b_MD_place 50 = .ok (.iconst 0, 1) := by decide +kernel
theorem d_MD_place_51 : decode b_MD_place 51 = .ok (.goto 14, 3) := by decide +kernel
theorem d_MD_place_54 : decode b_MD_place 54 = .ok (.aload_n 0, 1) := by decide +kernel
theorem d_MD_place_55 : decode b_MD_place 55 = .ok (.getfield 42, 3) := by decide +kernel
theorem d_MD_place_58 : decode b_MD_place 58 = .ok (.iconst 4, 1) := by decide +kernel
theorem d_MD_place_59 : decode b_MD_place 59 = .ok (.iload_n 2, 1) := by decide +kernel
theorem d_MD_place_60 : decode b_MD_place 60 = .ok (.imul, 1) := by decide +kernel
theorem d_MD_place_61 : decode b_MD_place 61 = .ok (.iload 4, 2) := by decide +kernel
theorem d_MD_place_63 : decode b_MD_place 63 = .ok (.iadd, 1) := by decide +kernel
theorem d_MD_place_64 : decode b_MD_place 64 = .ok (.iaload, 1) := by decide +kernel
theorem d_MD_place_65 : decode b_MD_place 65 = .ok (.iastore, 1) := by decide +kernel
theorem d_MD_place_66 : decode b_MD_place 66 = .ok (.iinc 4 1, 3) := by decide +kernel
theorem d_MD_place_69 : decode b_MD_place 69 = .ok (.goto (-39), 3) := by decide +kernel
theorem d_MD_place_72 : decode b_MD_place 72 = .ok (.return_, 1) := by decide +kernel
theorem d_MD_locate_0 : decode b_MD_locate 0 = .ok (.aload_n 0, 1) := by decide +kernel
theorem d_MD_locate_1 : decode b_MD_locate 1 = .ok (.aload_n 0, 1) := by decide +kernel
theorem d_MD_locate_2 : decode b_MD_locate 2 = .ok (.iload_n 1, 1) := by decide +kernel
theorem d_MD_locate_3 : decode b_MD_locate 3 = .ok (.iconst 3, 1) := by decide +kernel
theorem d_MD_locate_4 : decode b_MD_locate 4 = .ok (.invokevirtual 63, 3) := by decide +kernel
theorem d_MD_locate_7 : decode b_MD_locate 7 = .ok (.ifCond .ne 22, 3) := by decide +kernel
theorem d_MD_locate_10 : decode b_MD_locate 10 = .ok (.aload_n 0, 1) := by decide +kernel
theorem d_MD_locate_11 : decode b_MD_locate 11 = .ok (.iload_n 2, 1) := by decide +kernel
theorem d_MD_locate_12 : decode b_MD_locate 12 = .ok (.bipush 8, 2) := by decide +kernel
theorem d_MD_locate_14 : decode b_MD_locate 14 = .ok (.invokevirtual 63, 3) := by decide +kernel
theorem d_MD_locate_17 : decode b_MD_locate 17 = .ok (.ifCond .ne 12, 3) := by decide +kernel
theorem d_MD_locate_20 : decode b_MD_locate 20 = .ok (.aload_n 0, 1) := by decide +kernel
theorem d_MD_locate_21 : decode b_MD_locate 21 = .ok (.iload_n 3, 1) := by decide +kernel
theorem d_MD_locate_22 : decode b_MD_locate 22 = .ok (.iconst 3, 1) := by decide +kernel
theorem d_MD_locate_23 : decode b_MD_locate 23 = .ok (.invokevirtual 63, 3) := by decide +kernel
theorem d_MD_locate_26 : decode b_MD_locate 26 = .ok (.ifCond .eq 7, 3) := by decide +kernel
theorem d_MD_locate_29 : decode b_MD_locate 29 = .ok (.iconst 1, 1) := by decide +kernel
theorem d_MD_locate_30 : decode b_MD_locate 30 = .ok (.goto 10, 3) := by decide +kernel
theorem d_MD_locate_33 : decode b_MD_locate 33 = .ok (.aload_n 0, 1) := by decide +kernel
theorem d_MD_locate_34 : decode b_MD_locate 34 = .ok (.iload_n 1, 1) := by decide +kernel
theorem d_MD_locate_35 : decode b_MD_locate 35 = .ok (.iload_n 2, 1) := by decide +kernel
theorem d_MD_locate_36 : decode b_MD_locate 36 = .ok (.iload_n 3, 1) := by decide +kernel
theorem d_MD_locate_37 : decode b_MD_locate 37 = .ok (.invokevirtual 94, 3) := by decide +kernel
theorem d_MD_locate_40 : decode b_MD_locate 40 = .ok (.putfield 59, 3) := by decide +kernel
theorem d_MD_locate_43 : decode b_MD_locate 43 = .ok (.aload_n 0, 1) := by decide +kernel
theorem d_MD_locate_44 : decode b_MD_locate 44 = .ok (.getfield 59, 3) := by decide +kernel
theorem d_MD_locate_47 : decode b_MD_locate 47 = .ok (.ifCond .le 7, 3) := by decide +kernel
theorem d_MD_locate_50 : decode b_MD_locate 50 = .ok (.iconst 0, 1) := by decide +kernel
theorem d_MD_locate_51 : decode b_MD_locate 51 = .ok (.goto 18, 3) := by decide +kernel
theorem d_MD_locate_54 : decode b_MD_locate 54 = .ok (.aload_n 0, 1) := by decide +kernel
theorem d_MD_locate_55 : decode b_MD_locate 55 = .ok (.getfield 48, 3) := by decide +kernel
theorem d_MD_locate_58 : decode b_MD_locate 58 = .ok (.bipush 24, 2) := by decide +kernel
theorem d_MD_locate_60 : decode b_MD_locate 60 = .ok (.iload_n 1, 1) := by decide +kernel
theorem d_MD_locate_61 : decode b_MD_locate 61 = .ok (.imul, 1) := by decide +kernel
theorem d_MD_locate_62 : decode b_MD_locate 62 = .ok (.iconst 3, 1) := by decide +kernel
theorem d_MD_locate_63 : decode b_MD_locate 63 = .ok (.iload_n 2, 1) := by decide +kernel
theorem d_MD_locate_64 : decode b_MD_locate 64 = .ok (.imul, 1) := by decide +kernel
theorem d_MD_locate_65 : decode b_MD_locate 65 = .ok (.iadd, 1) := by decide +kernel
theorem d_MD_locate_66 : decode b_MD_locate 66 = .ok (.iload_n 3, 1) := by decide +kernel
theorem d_MD_locate_67 : decode b_MD_locate 67 = .ok (.iadd, 1) := by decide +kernel
theorem d_MD_locate_68 : decode b_MD_locate 68 = .ok (.iaload, 1) := by decide +kernel
theorem d_MD_locate_69 : decode b_MD_locate 69 = .ok (.ireturn, 1) := by decide +kernel
theorem d_MD_find_0 : decode b_MD_find 0 = .ok (.aload_n 0, 1) := by decide +kernel
theorem d_MD_find_1 : decode b_MD_find 1 = .ok (.getfield 7, 3) := by decide +kernel
theorem d_MD_find_4 : decode b_MD_find 4 = .ok (.iload_n 2, 1) := by decide +kernel
theorem d_MD_find_5 : decode b_MD_find 5 = .ok (.iaload, 1) := by decide +kernel
theorem d_MD_find_6 : decode b_MD_find 6 = .ok (.iconst 1, 1) := by decide +kernel
theorem d_MD_find_7 : decode b_MD_find 7 = .ok (.if_icmp .eq 5, 3) := by decide +kernel
theorem d_MD_find_10 : decode b_MD_find 10 = .ok (.iconst 2, 1) := by decide +kernel
theorem d_MD_find_11 : decode b_MD_find 11 = .ok (.ireturn, 1) := by decide +kernel
theorem d_MD_find_12 : decode b_MD_find 12 = .ok (.iload_n 3, 1) := by decide +kernel
theorem d_MD_find_13 : decode b_MD_find 13 = .ok (.aload_n 0, 1) := by decide +kernel
theorem d_MD_find_14 : decode b_MD_find 14 = .ok (.getfield 20, 3) := by decide +kernel
theorem d_MD_find_17 : decode b_MD_find 17 = .ok (.iload_n 2, 1) := by decide +kernel
theorem d_MD_find_18 : decode b_MD_find 18 = .ok (.iaload, 1) := by decide +kernel
theorem d_MD_find_19 : decode b_MD_find 19 = .ok (.if_icmp .lt 5, 3) := by decide +kernel
theorem d_MD_find_22 : decode b_MD_find 22 = .ok (.iconst 3, 1) := by decide +kernel
theorem d_MD_find_23 : decode b_MD_find 23 = .ok (.ireturn, 1) := by decide +kernel
theorem d_MD_find_24 : decode b_MD_find 24 = .ok (.bipush 24, 2) := by decide +kernel
theorem d_MD_find_26 : decode b_MD_find 26 = .ok (.iload_n 1, 1) := by decide +kernel
theorem d_MD_find_27 : decode b_MD_find 27 = .ok (.imul, 1) := by decide +kernel
theorem d_MD_find_28 : decode b_MD_find 28 = .ok (.iconst 3, 1) := by decide +kernel
theorem d_MD_find_29 : decode b_MD_find 29 = .ok (.iload_n 2, 1) := by decide +kernel
theorem d_MD_find_30 : decode b_MD_find 30 = .ok (.imul, 1) := by decide +kernel
theorem d_MD_find_31 : decode b_MD_find 31 = .ok (.iadd, 1) := by decide +kernel
theorem d_MD_find_32 : decode b_MD_find 32 = .ok (.iload_n 3, 1) := by decide +kernel
theorem d_MD_find_33 : decode b_MD_find 33 = .ok (.iadd, 1) := by decide +kernel
theorem d_MD_find_34 : decode b_MD_find 34 = .ok (.istore 4, 2) := by decide +kernel
theorem d_MD_find_36 : decode b_MD_find 36 = .ok (.aload_n 0, 1) := by decide +kernel
theorem d_MD_find_37 : decode b_MD_find 37 = .ok (.getfield 54, 3) := by decide +kernel
theorem d_MD_find_40 : decode b_MD_find 40 = .ok (.iload 4, 2) := by decide +kernel
theorem d_MD_find_42 : decode b_MD_find 42 = .ok (.daload, 1) := by decide +kernel
theorem d_MD_find_43 : decode b_MD_find 43 = .ok (.aload_n 0, 1) := by decide +kernel
theorem d_MD_find_44 : decode b_MD_find 44 = .ok (.getfield 71, 3) := by decide +kernel
theorem d_MD_find_47 : decode b_MD_find 47 = .ok (.dcmp .l, 1) := by decide +kernel
theorem d_MD_find_48 : decode b_MD_find 48 = .ok (.ifCond .le 5, 3) := by decide +kernel
theorem d_MD_find_51 : decode b_MD_find 51 = .ok (.iconst 0, 1) := by decide +kernel
theorem d_MD_find_52 : decode b_MD_find 52 = .ok (.ireturn, 1) := by decide +kernel
theorem d_MD_find_53 : decode b_MD_find 53 = .ok (.aload_n 0, 1) := by decide +kernel
theorem d_MD_find_54 : decode b_MD_find 54 = .ok (.getfield 17, 3) := by decide +kernel
theorem d_MD_find_57 : decode b_MD_find 57 = .ok (.iconst 3, 1) := by decide +kernel
theorem d_MD_find_58 : decode b_MD_find 58 = .ok (.iload_n 2, 1) := by decide +kernel
theorem d_MD_find_59 : decode b_MD_find 59 = .ok (.imul, 1) := by decide +kernel
theorem d_MD_find_60 : decode b_MD_find 60 = .ok (.iload_n 3, 1) := by decide +kernel
theorem d_MD_find_61 : decode b_MD_find 61 = .ok (.iadd, 1) := by decide +kernel
theorem d_MD_find_62 : decode b_MD_find 62 = .ok (.iaload, 1) := by decide +kernel
theorem d_MD_find_63 : decode b_MD_find 63 = .ok (.istore 5, 2) := by decide +kernel
theorem d_MD_find_65 : decode b_MD_find 65 = .ok (.aload_n 0, 1) := by decide +kernel
theorem d_MD_find_66 : decode b_MD_find 66 = .ok (.getfield 45, 3) := by decide +kernel
theorem d_MD_find_69 : decode b_MD_find 69 = .ok (.iload 4, 2) := by decide +kernel
theorem d_MD_find_71 : decode b_MD_find 71 = .ok (.iload 5, 2) := by decide +kernel
theorem d_MD_find_73 : decode b_MD_find 73 = .ok (.iastore, 1) := by decide +kernel
theorem d_MD_find_74 : decode b_MD_find 74 = .ok (.aload_n 0, 1) := by decide +kernel
theorem d_MD_find_75 : decode b_MD_find 75 = .ok (.getfield 48, 3) := by decide +kernel
theorem d_MD_find_78 : decode b_MD_find 78 = .ok (.iload 4, 2) := by decide +kernel
theorem d_MD_find_80 : decode b_MD_find 80 = .ok (.aload_n 0, 1) := by decide +kernel
theorem d_MD_find_81 : decode b_MD_find 81 = .ok (.getfield 23, 3) := by decide +kernel
theorem d_MD_find_84 : decode b_MD_find 84 = .ok (.iload 5, 2) := by decide +kernel
theorem d_MD_find_86 : decode b_MD_find 86 = .ok (.iaload, 1) := by decide +kernel
theorem d_MD_find_87 : decode b_MD_find 87 = .ok (.iastore, 1) := by decide +kernel
theorem d_MD_find_88 : decode b_MD_find 88 = .ok (.aload_n 0, 1) := by decide +kernel
theorem d_MD_find_89 : decode b_MD_find 89 = .ok (.getfield 51, 3) := by decide +kernel
theorem d_MD_find_92 : decode b_MD_find 92 = .ok (.iload 4, 2) := by decide +kernel
theorem d_MD_find_94 : decode b_MD_find 94 = .ok (.aload_n 0, 1) := by decide +kernel
theorem d_MD_find_95 : decode b_MD_find 95 = .ok (.getfield 26, 3) := by decide +kernel
theorem d_MD_find_98 : decode b_MD_find 98 = .ok (.iload 5, 2) := by decide +kernel
theorem d_MD_find_100 : decode b_MD_find 100 = .ok (.iaload, 1) := by decide +kernel
theorem d_MD_find_101 : decode b_MD_find 101 = .ok (.iastore, 1) := by decide +kernel
theorem d_MD_find_102 : decode b_MD_find 102 = .ok (.aload_n 0, 1) := by decide +kernel
theorem d_MD_find_103 : decode b_MD_find 103 = .ok (.getfield 54, 3) := by decide +kernel
theorem d_MD_find_106 : decode b_MD_find 106 = .ok (.iload 4, 2) := by decide +kernel
theorem d_MD_find_108 : decode b_MD_find 108 = .ok (.aload_n 0, 1) := by decide +kernel
theorem d_MD_find_109 : decode b_MD_find 109 = .ok (.getfield 71, 3) := by decide +kernel
theorem d_MD_find_112 : decode b_MD_find 112 = .ok (.ldc2_w 92, 3) := by decide +kernel
theorem d_MD_find_115 : decode b_MD_find 115 = .ok (.dadd, 1) := by decide +kernel
theorem d_MD_find_116 : decode b_MD_find 116 = .ok (.dastore, 1) := by decide +kernel
theorem d_MD_find_117 : decode b_MD_find 117 = .ok (.iconst 0, 1) := by decide +kernel
theorem d_MD_find_118 : decode b_MD_find 118 = .ok (.ireturn, 1) := by decide +kernel
theorem d_MD_write_0 : decode b_MD_write 0 = .ok (.aload_n 0, 1) := by decide +kernel
theorem d_MD_write_1 : decode b_MD_write 1 = .ok (.iconst 0, 1) := by decide +kernel
theorem d_MD_write_2 : decode b_MD_write 2 = .ok (.putfield 59, 3) := by decide +kernel
theorem d_MD_write_5 : decode b_MD_write 5 = .ok (.aload_n 0, 1) := by decide +kernel
theorem d_MD_write_6 : decode b_MD_write 6 = .ok (.iload_n 1, 1) := by decide +kernel
theorem d_MD_write_7 : decode b_MD_write 7 = .ok (.bipush 8, 2) := by decide +kernel
theorem d_MD_write_9 : decode b_MD_write 9 = .ok (.invokevirtual 63, 3) := by decide +kernel
theorem d_MD_write_12 : decode b_MD_write 12 = .ok (.ifCond .ne 21, 3) := by decide +kernel
theorem d_MD_write_15 : decode b_MD_write 15 = .ok (.aload_n 0, 1) := by decide +kernel
theorem d_MD_write_16 : decode b_MD_write 16 = .ok (.iload_n 2, 1) := by decide +kernel
theorem d_MD_write_17 : decode b_MD_write 17 = .ok (.iconst 3, 1) := by decide +kernel
theorem d_MD_write_18 : decode b_MD_write 18 = .ok (.invokevirtual 63, 3) := by decide +kernel
theorem d_MD_write_21 : decode b_MD_write 21 = .ok (.ifCond .ne 12, 3) := by decide +kernel
theorem d_MD_write_24 : decode b_MD_write 24 = .ok (.aload_n 0, 1) := by decide +kernel
theorem d_MD_write_25 : decode b_MD_write 25 = .ok (.iload_n 3, 1) := by decide +kernel
theorem d_MD_write_26 : decode b_MD_write 26 = .ok (.iconst 4, 1) := by decide +kernel
theorem d_MD_write_27 : decode b_MD_write 27 = .ok (.invokevirtual 63, 3) := by decide +kernel
theorem d_MD_write_30 : decode b_MD_write 30 = .ok (.ifCond .eq 9, 3) := by decide +kernel
theorem d_MD_write_33 : decode b_MD_write 33 = .ok (.aload_n 0, 1) := by decide +kernel
theorem d_MD_write_34 : decode b_MD_write 34 = .ok (.iconst 1, 1) := by decide +kernel
theorem d_MD_write_35 : decode b_MD_write 35 = .ok (.invokevirtual 67, 3) := by decide +kernel
theorem d_MD_write_38 : decode b_MD_write 38 = .ok (.ireturn, 1) := by decide +kernel
theorem d_MD_write_39 : decode b_MD_write 39 = .ok (.aload_n 0, 1) := by decide +kernel
theorem d_MD_write_40 : decode b_MD_write 40 = .ok (.getfield 7, 3) := by decide +kernel
theorem d_MD_write_43 : decode b_MD_write 43 = .ok (.iload_n 1, 1) := by decide +kernel
theorem d_MD_write_44 : decode b_MD_write 44 = .ok (.iaload, 1) := by decide +kernel
theorem d_MD_write_45 : decode b_MD_write 45 = .ok (.iconst 1, 1) := by decide +kernel
theorem d_MD_write_46 : decode b_MD_write 46 = .ok (.if_icmp .eq 9, 3) := by decide +kernel
theorem d_MD_write_49 : decode b_MD_write 49 = .ok (.aload_n 0, 1) := by decide +kernel
theorem d_MD_write_50 : decode b_MD_write 50 = .ok (.iconst 2, 1) := by decide +kernel
theorem d_MD_write_51 : decode b_MD_write 51 = .ok (.invokevirtual 67, 3) := by decide +kernel
theorem d_MD_write_54 : decode b_MD_write 54 = .ok (.ireturn, 1) := by decide +kernel
theorem d_MD_write_55 : decode b_MD_write 55 = .ok (.iload_n 2, 1) := by decide +kernel
theorem d_MD_write_56 : decode b_MD_write 56 = .ok (.aload_n 0, 1) := by decide +kernel
theorem d_MD_write_57 : decode b_MD_write 57 = .ok (.getfield 20, 3) := by decide +kernel
theorem d_MD_write_60 : decode b_MD_write 60 = .ok (.iload_n 1, 1) := by decide +kernel
theorem d_MD_write_61 : decode b_MD_write 61 = .ok (.iaload, 1) := by decide +kernel
theorem d_MD_write_62 : decode b_MD_write 62 = .ok (.if_icmp .lt 9, 3) := by decide +kernel
theorem d_MD_write_65 : decode b_MD_write 65 = .ok (.aload_n 0, 1) := by decide +kernel
theorem d_MD_write_66 : decode b_MD_write 66 = .ok (.iconst 5, 1) := by decide +kernel
theorem d_MD_write_67 : decode b_MD_write 67 = .ok (.invokevirtual 67, 3) := by decide +kernel
theorem d_MD_write_70 : decode b_MD_write 70 = .ok (.ireturn, 1) := by decide +kernel
theorem d_MD_write_71 : decode b_MD_write 71 = .ok (.aload_n 0, 1) := by decide +kernel
theorem d_MD_write_72 : decode b_MD_write 72 = .ok (.iload_n 1, 1) := by decide +kernel
theorem d_MD_write_73 : decode b_MD_write 73 = .ok (.iload_n 2, 1) := by decide +kernel
theorem d_MD_write_74 : decode b_MD_write 74 = .ok (.invokevirtual 106, 3) := by decide +kernel
theorem d_MD_write_77 : decode b_MD_write 77 = .ok (.istore 5, 2) := by decide +kernel
theorem d_MD_write_79 : decode b_MD_write 79 = .ok (.iload 5, 2) := by decide +kernel
theorem d_MD_write_81 : decode b_MD_write 81 = .ok (.ifCond .le 10, 3) := by decide +kernel
theorem d_MD_write_84 : decode b_MD_write 84 = .ok (.aload_n 0, 1) := by decide +kernel
theorem d_MD_write_85 : decode b_MD_write 85 = .ok (.iload 5, 2) := by decide +kernel
theorem d_MD_write_87 : decode b_MD_write 87 = .ok (.invokevirtual 67, 3) := by decide +kernel
theorem d_MD_write_90 : decode b_MD_write 90 = .ok (.ireturn, 1) := by decide +kernel
theorem d_MD_write_91 : decode b_MD_write 91 = .ok (.aload_n 0, 1) := by decide +kernel
theorem d_MD_write_92 : decode b_MD_write 92 = .ok (.getfield 17, 3) := by decide +kernel
theorem d_MD_write_95 : decode b_MD_write 95 = .ok (.iconst 3, 1) := by decide +kernel
theorem d_MD_write_96 : decode b_MD_write 96 = .ok (.iload_n 1, 1) := by decide +kernel
theorem d_MD_write_97 : decode b_MD_write 97 = .ok (.imul, 1) := by decide +kernel
theorem d_MD_write_98 : decode b_MD_write 98 = .ok (.iload_n 2, 1) := by decide +kernel
theorem d_MD_write_99 : decode b_MD_write 99 = .ok (.iadd, 1) := by decide +kernel
theorem d_MD_write_100 : decode b_MD_write 100 = .ok (.iaload, 1) := by decide +kernel
theorem d_MD_write_101 : decode b_MD_write 101 = .ok (.istore 6, 2) := by decide +kernel
theorem d_MD_write_103 : decode b_MD_write 103 = .ok (.aload_n 0, 1) := by decide +kernel
theorem d_MD_write_104 : decode b_MD_write 104 = .ok (.iload 6, 2) := by decide +kernel
theorem d_MD_write_106 : decode b_MD_write 106 = .ok (.iload_n 3, 1) := by decide +kernel
theorem d_MD_write_107 : decode b_MD_write 107 = .ok (.iload 4, 2) := by decide +kernel
theorem d_MD_write_109 : decode b_MD_write 109 = .ok (.invokevirtual 109, 3) := by decide +kernel
theorem d_MD_write_112 : decode b_MD_write 112 = .ok (.aload_n 0, 1) := by decide +kernel
theorem d_MD_write_113 : decode b_MD_write 113 = .ok (.getfield 23, 3) := by decide +kernel
theorem d_MD_write_116 : decode b_MD_write 116 = .ok (.iload 6, 2) := by decide +kernel
theorem d_MD_write_118 : decode b_MD_write 118 = .ok (.iaload, 1) := by decide +kernel
theorem d_MD_write_119 : decode b_MD_write 119 = .ok (.ireturn, 1) := by decide +kernel
theorem d_MD_takeLease_0 : decode b_MD_takeLease 0 = .ok (.aload_n 0, 1) := by decide +kernel
theorem d_MD_takeLease_1 : decode b_MD_takeLease 1 = .ok (.getfield 17, 3) := by decide +kernel
theorem d_MD_takeLease_4 : decode b_MD_takeLease 4 = .ok (.iconst 3, 1) := by decide +kernel
theorem d_MD_takeLease_5 : decode b_MD_takeLease 5 = .ok (.iload_n 1, 1) := by decide +kernel
theorem d_MD_takeLease_6 : decode b_MD_takeLease 6 = .ok (.imul, 1) := by decide +kernel
theorem d_MD_takeLease_7 : decode b_MD_takeLease 7 = .ok (.iload_n 2, 1) := by decide +kernel
theorem d_MD_takeLease_8 : decode b_MD_takeLease 8 = .ok (.iadd, 1) := by decide +kernel
theorem d_MD_takeLease_9 : decode b_MD_takeLease 9 = .ok (.iaload, 1) := by decide +kernel
theorem d_MD_takeLease_10 : decode b_MD_takeLease 10 = .ok (.istore_n 3, 1) := by decide +kernel
theorem d_MD_takeLease_11 : decode b_MD_takeLease 11 = .ok (.aload_n 0, 1) := by decide +kernel
theorem d_MD_takeLease_12 : decode b_MD_takeLease 12 = .ok (.iload_n 3, 1) := by decide +kernel
theorem d_MD_takeLease_13 : decode b_MD_takeLease 13 = .ok (.invokevirtual 98, 3) := by decide +kernel
theorem d_MD_takeLease_16 : decode b_MD_takeLease 16 = .ok (.istore 4, 2) := by decide +kernel
theorem d_MD_takeLease_18 : decode b_MD_takeLease 18 = .ok (.aload_n 0, 1) := by decide +kernel
theorem d_MD_takeLease_19 : decode b_MD_takeLease 19 = .ok (.getfield 29, 3) := by decide +kernel
theorem d_MD_takeLease_22 : decode b_MD_takeLease 22 = .ok (.iload_n 3, 1) := by decide +kernel
theorem d_MD_takeLease_23 : decode b_MD_takeLease 23 = .ok (.daload, 1) := by decide +kernel
theorem d_MD_takeLease_24 : decode b_MD_takeLease 24 = .ok (.aload_n 0, 1) := by decide +kernel
theorem d_MD_takeLease_25 : decode b_MD_takeLease 25 = .ok (.getfield 71, 3) := by decide +kernel
theorem d_MD_takeLease_28 : decode b_MD_takeLease 28 = .ok (.dcmp .l, 1) := by decide +kernel
theorem d_MD_takeLease_29 : decode b_MD_takeLease 29 = .ok (.ifCond .le 16, 3) := by decide +kernel
theorem d_MD_takeLease_32 : decode b_MD_takeLease 32 = .ok (.iload 4, 2) := by decide +kernel
theorem d_MD_takeLease_34 : decode b_MD_takeLease 34 = .ok (.aload_n 0, 1) := by decide +kernel
theorem d_MD_takeLease_35 : decode b_MD_takeLease 35 = .ok (.getfield 26, 3) := by decide +kernel
theorem d_MD_takeLease_38 : decode b_MD_takeLease 38 = .ok (.iload_n 3, 1) := by decide +kernel
theorem d_MD_takeLease_39 : decode b_MD_takeLease 39 = .ok (.iaload, 1) := by decide +kernel
theorem d_MD_takeLease_40 : decode b_MD_takeLease 40 = .ok (.if_icmp .ne 5, 3) := by decide +kernel
theorem d_MD_takeLease_43 : decode b_MD_takeLease 43 = .ok (.iconst 0, 1) := by decide +kernel
theorem d_MD_takeLease_44 : decode b_MD_takeLease 44 = .ok (.ireturn, 1) := by decide +kernel
theorem d_MD_takeLease_45 : decode b_MD_takeLease 45 = .ok (.iload 4, 2) := by decide +kernel
theorem d_MD_takeLease_47 : decode b_MD_takeLease 47 = .ok (.ifCond .ne 5, 3) := by decide +kernel
theorem d_MD_takeLease_50 : decode b_MD_takeLease 50 = .ok (.iconst 3, 1) := by decide +kernel
theorem d_MD_takeLease_51 : decode b_MD_takeLease 51 = .ok (.ireturn, 1) := by decide +kernel
theorem d_MD_takeLease_52 : decode b_MD_takeLease 52 = .ok (.aload_n 0, 1) := by decide +kernel
theorem d_MD_takeLease_53 : decode b_MD_takeLease 53 = .ok (.iload_n 3, 1) := by decide +kernel
theorem d_MD_takeLease_54 : decode b_MD_takeLease 54 = .ok (.invokevirtual 101, 3) := by decide +kernel
theorem d_MD_takeLease_57 : decode b_MD_takeLease 57 = .ok (.iconst 1, 1) := by decide +kernel
theorem d_MD_takeLease_58 : decode b_MD_takeLease 58 = .ok (.if_icmp .le 152, 3) := by decide +kernel
theorem d_MD_takeLease_61 : decode b_MD_takeLease 61 = .ok (.aload_n 0, 1) := by decide +kernel
theorem d_MD_takeLease_62 : decode b_MD_takeLease 62 = .ok (.getfield 78, 3) := by decide +kernel
theorem d_MD_takeLease_65 : decode b_MD_takeLease 65 = .ok (.bipush 30, 2) := by decide +kernel
theorem d_MD_takeLease_67 : decode b_MD_takeLease 67 = .ok (.if_icmp .ne 5, 3) := by decide +kernel
theorem d_MD_takeLease_70 : decode b_MD_takeLease 70 = .ok (.iconst 5, 1) := by decide +kernel
theorem d_MD_takeLease_71 : decode b_MD_takeLease 71 = .ok (.ireturn, 1) := by decide +kernel
theorem d_MD_takeLease_72 : decode b_MD_takeLease 72 = .ok (.iconst 0, 1) := by decide +kernel
theorem d_MD_takeLease_73 : decode b_MD_takeLease 73 = .ok (.istore 5, 2) := by decide +kernel
theorem d_MD_takeLease_75 : decode b_MD_takeLease 75 = .ok (.iload 5, 2) := by decide +kernel
theorem d_MD_takeLease_77 : decode b_MD_takeLease 77 = .ok (.iconst 5, 1) := by decide +kernel
theorem d_MD_takeLease_78 : decode b_MD_takeLease 78 = .ok (.if_icmp .ge 32, 3) := by decide +kernel
theorem d_MD_takeLease_81 : decode b_MD_takeLease 81 = .ok (.iload 4, 2) := by decide +kernel
theorem d_MD_takeLease_83 : decode b_MD_takeLease 83 = .ok (.iload 5, 2) := by decide +kernel
theorem d_MD_takeLease_85 : decode b_MD_takeLease 85 = .ok (.ishr, 1) := by decide +kernel
theorem d_MD_takeLease_86 : decode b_MD_takeLease 86 = .ok (.iconst 1, 1) := by decide +kernel
theorem d_MD_takeLease_87 : decode b_MD_takeLease 87 = .ok (.iand, 1) := by decide +kernel
theorem d_MD_takeLease_88 : decode b_MD_takeLease 88 = .ok (.ifCond .eq 16, 3) := by decide +kernel
theorem d_MD_takeLease_91 : decode b_MD_takeLease 91 = .ok (.aload_n 0, 1) := by decide +kernel
theorem d_MD_takeLease_92 : decode b_MD_takeLease 92 = .ok (.iload 5, 2) := by decide +kernel
theorem d_MD_takeLease_94 : decode b_MD_takeLease 94 = .ok (.invokevirtual 75, 3) := by decide +kernel
theorem d_MD_takeLease_97 : decode b_MD_takeLease 97 = .ok (.bipush 12, 2) := by decide +kernel
theorem d_MD_takeLease_99 : decode b_MD_takeLease 99 = .ok (.if_icmp .ne 5, 3) := by decide +kernel
theorem d_MD_takeLease_102 : decode b_MD_takeLease 102 = .ok (.iconst 4, 1) := by decide +kernel
theorem d_MD_takeLease_103 : decode b_MD_takeLease 103 = .ok (.ireturn, 1) := by decide +kernel
theorem d_MD_takeLease_104 : decode b_MD_takeLease 104 = .ok (.iinc 5 1, 3) := by decide +kernel
theorem d_MD_takeLease_107 : decode b_MD_takeLease 107 = .ok (.goto (-32), 3) := by decide +kernel
theorem d_MD_takeLease_110 : decode b_MD_takeLease 110 = .ok (.iconst 0, 1) := by decide +kernel
theorem d_MD_takeLease_111 : decode b_MD_takeLease 111 = .ok (.istore 5, 2) := by decide +kernel
theorem d_MD_takeLease_113 : decode b_MD_takeLease 113 = .ok (.iload 5, 2) := by decide +kernel
theorem d_MD_takeLease_115 : decode b_MD_takeLease 115 = .ok (.iconst 5, 1) := by decide +kernel
theorem d_MD_takeLease_116 : decode b_MD_takeLease 116 = .ok (.if_icmp .ge 41, 3) := by decide +kernel
theorem d_MD_takeLease_119 : decode b_MD_takeLease 119 = .ok (.iload 4, 2) := by decide +kernel
theorem d_MD_takeLease_121 : decode b_MD_takeLease 121 = .ok (.iload 5, 2) := by decide +kernel
theorem d_MD_takeLease_123 : decode b_MD_takeLease 123 = .ok (.ishr, 1) := by decide +kernel
theorem d_MD_takeLease_124 : decode b_MD_takeLease 124 = .ok (.iconst 1, 1) := by decide +kernel
theorem d_MD_takeLease_125 : decode b_MD_takeLease 125 = .ok (.iand, 1) := by decide +kernel
theorem d_MD_takeLease_126 : decode b_MD_takeLease 126 = .ok (.ifCond .eq 25, 3) := by decide +kernel
theorem d_MD_takeLease_129 : decode b_MD_takeLease 129 = .ok (.aload_n 0, 1) := by decide +kernel
theorem d_MD_takeLease_130 : decode b_MD_takeLease 130 = .ok (.bipush 30, 2) := by decide +kernel
theorem d_MD_takeLease_132 : decode b_MD_takeLease 132 = .ok (.iload 5, 2) := by decide +kernel
theorem d_MD_takeLease_134 : decode b_MD_takeLease 134 = .ok (.imul, 1) := by decide +kernel
theorem d_MD_takeLease_135 : decode b_MD_takeLease 135 = .ok (.aload_n 0, 1) := by decide +kernel
theorem d_MD_takeLease_136 : decode b_MD_takeLease 136 = .ok (.getfield 78, 3) := by decide +kernel
theorem d_MD_takeLease_139 : decode b_MD_takeLease 139 = .ok (.iadd, 1) := by decide +kernel
theorem d_MD_takeLease_140 : decode b_MD_takeLease 140 = .ok (.bipush 30, 2) := by decide +kernel
theorem d_MD_takeLease_142 : decode b_MD_takeLease 142 = .ok (.iload 5, 2) := by decide +kernel
theorem d_MD_takeLease_144 : decode b_MD_takeLease 144 = .ok (.imul, 1) := by decide +kernel
theorem d_MD_takeLease_145 : decode b_MD_takeLease 145 = .ok (.iload_n 3, 1) := by decide +kernel
theorem d_MD_takeLease_146 : decode b_MD_takeLease 146 = .ok (.iadd, 1) := by decide +kernel
theorem d_MD_takeLease_147 : decode b_MD_takeLease 147 = .ok (.iconst 1, 1) := by decide +kernel
theorem d_MD_takeLease_148 : decode b_MD_takeLease 148 = .ok (.invokevirtual 85, 3) := by decide +kernel
theorem d_MD_takeLease_151 : decode b_MD_takeLease 151 = .ok (.iinc 5 1, 3) := by decide +kernel
theorem d_MD_takeLease_154 : decode b_MD_takeLease 154 = .ok (.goto (-41), 3) := by decide +kernel
theorem d_MD_takeLease_157 : decode b_MD_takeLease 157 = .ok (.aload_n 0, 1) := by decide +kernel
theorem d_MD_takeLease_158 : decode b_MD_takeLease 158 = .ok (.getfield 23, 3) := by decide +kernel
theorem d_MD_takeLease_161 : decode b_MD_takeLease 161 = .ok (.aload_n 0, 1) := by decide +kernel
theorem d_MD_takeLease_162 : decode b_MD_takeLease 162 = .ok (.getfield 78, 3) := by decide +kernel
theorem d_MD_takeLease_165 : decode b_MD_takeLease 165 = .ok (.iconst 1, 1) := by decide +kernel
theorem d_MD_takeLease_166 : decode b_MD_takeLease 166 = .ok (.iastore, 1) := by decide +kernel
theorem d_MD_takeLease_167 : decode b_MD_takeLease 167 = .ok (.aload_n 0, 1) := by decide +kernel
theorem d_MD_takeLease_168 : decode b_MD_takeLease 168 = .ok (.getfield 26, 3) := by decide +kernel
theorem d_MD_takeLease_171 : decode b_MD_takeLease 171 = .ok (.aload_n 0, 1) := by decide +kernel
theorem d_MD_takeLease_172 : decode b_MD_takeLease 172 = .ok (.getfield 78, 3) := by decide +kernel
theorem d_MD_takeLease_175 : decode b_MD_takeLease 175 = .ok (.iload 4, 2) := by decide +kernel
theorem d_MD_takeLease_177 : decode b_MD_takeLease 177 = .ok (.iastore, 1) := by decide +kernel
theorem d_MD_takeLease_178 : decode b_MD_takeLease 178 = .ok (.aload_n 0, 1) := by decide +kernel
theorem d_MD_takeLease_179 : decode b_MD_takeLease 179 = .ok (.getfield 17, 3) := by decide +kernel
theorem d_MD_takeLease_182 : decode b_MD_takeLease 182 = .ok (.iconst 3, 1) := by decide +kernel
theorem d_MD_takeLease_183 : decode b_MD_takeLease 183 = .ok (.iload_n 1, 1) := by decide +kernel
theorem d_MD_takeLease_184 : decode b_MD_takeLease 184 = .ok (.imul, 1) := by decide +kernel
theorem d_MD_takeLease_185 : decode b_MD_takeLease 185 = .ok (.iload_n 2, 1) := by decide +kernel
theorem d_MD_takeLease_186 : decode b_MD_takeLease 186 = .ok (.iadd, 1) := by decide +kernel
theorem d_MD_takeLease_187 : decode b_MD_takeLease 187 = .ok (.aload_n 0, 1) := by decide +kernel
theorem d_MD_takeLease_188 : decode b_MD_takeLease 188 = .ok (.getfield 78, 3) := by decide +kernel
theorem d_MD_takeLease_191 : decode b_MD_takeLease 191 = .ok (.iastore, 1) := by decide +kernel
theorem d_MD_takeLease_192 : decode b_MD_takeLease 192 = .ok (.aload_n 0, 1) := by decide +kernel
theorem d_MD_takeLease_193 : decode b_MD_takeLease 193 = .ok (.getfield 78, 3) := by decide +kernel
theorem d_MD_takeLease_196 : decode b_MD_takeLease 196 = .ok (.istore_n 3, 1) := by decide +kernel
theorem d_MD_takeLease_197 : decode b_MD_takeLease 197 = .ok (.aload_n 0, 1) := by decide +kernel
theorem d_MD_takeLease_198 : decode b_MD_takeLease 198 = .ok (.dup, 1) := by decide +kernel
theorem d_MD_takeLease_199 : decode b_MD_takeLease 199 = .ok (.getfield 78, 3) := by decide +kernel
theorem d_MD_takeLease_202 : decode b_MD_takeLease 202 = .ok (.iconst 1, 1) := by decide +kernel
theorem d_MD_takeLease_203 : decode b_MD_takeLease 203 = .ok (.iadd, 1) := by decide +kernel
theorem d_MD_takeLease_204 : decode b_MD_takeLease 204 = .ok (.putfield 78, 3) := by decide +kernel
theorem d_MD_takeLease_207 : decode b_MD_takeLease 207 = .ok (.goto 64, 3) := by decide +kernel
theorem d_MD_takeLease_210 : decode b_MD_takeLease 210 = .ok (.aload_n 0, 1) := by decide +kernel
theorem d_MD_takeLease_211 : decode b_MD_takeLease 211 = .ok (.getfield 23, 3) := by decide +kernel
theorem d_MD_takeLease_214 : decode b_MD_takeLease 214 = .ok (.iload_n 3, 1) := by decide +kernel
theorem d_MD_takeLease_215 : decode b_MD_takeLease 215 = .ok (.dup2, 1) := by decide +kernel
theorem d_MD_takeLease_216 : decode b_MD_takeLease 216 = .ok (.iaload, 1) := by decide +kernel
theorem d_MD_takeLease_217 : decode b_MD_takeLease 217 = .ok (.iconst 1, 1) := by decide +kernel
theorem d_MD_takeLease_218 : decode b_MD_takeLease 218 = .ok (.iadd, 1) := by decide +kernel
theorem d_MD_takeLease_219 : decode b_MD_takeLease 219 = .ok (.iastore, 1) := by decide +kernel
theorem d_MD_takeLease_220 : decode b_MD_takeLease 220 = .ok (.aload_n 0, 1) := by decide +kernel
theorem d_MD_takeLease_221 : decode b_MD_takeLease 221 = .ok (.getfield 26, 3) := by decide +kernel
theorem d_MD_takeLease_224 : decode b_MD_takeLease 224 = .ok (.iload_n 3, 1) := by decide +kernel
theorem d_MD_takeLease_225 : decode b_MD_takeLease 225 = .ok (.iload 4, 2) := by decide +kernel
theorem d_MD_takeLease_227 : decode b_MD_takeLease 227 = .ok (.iastore, 1) := by decide +kernel
theorem d_MD_takeLease_228 : decode b_MD_takeLease 228 = .ok (.iconst 0, 1) := by decide +kernel
theorem d_MD_takeLease_229 : decode b_MD_takeLease 229 = .ok (.istore 5, 2) := by decide +kernel
theorem d_MD_takeLease_231 : decode b_MD_takeLease 231 = .ok (.iload 5, 2) := by decide +kernel
theorem d_MD_takeLease_233 : decode b_MD_takeLease 233 = .ok (.iconst 5, 1) := by decide +kernel
theorem d_MD_takeLease_234 : decode b_MD_takeLease 234 = .ok (.if_icmp .ge 37, 3) := by decide +kernel
theorem d_MD_takeLease_237 : decode b_MD_takeLease 237 = .ok (.iload 4, 2) := by decide +kernel
theorem d_MD_takeLease_239 : decode b_MD_takeLease 239 = .ok (.iload 5, 2) := by decide +kernel
theorem d_MD_takeLease_241 : decode b_MD_takeLease 241 = .ok (.ishr, 1) := by decide +kernel
theorem d_MD_takeLease_242 : decode b_MD_takeLease 242 = .ok (.iconst 1, 1) := by decide +kernel
theorem d_MD_takeLease_243 : decode b_MD_takeLease 243 = .ok (.iand, 1) := by decide +kernel
theorem d_MD_takeLease_244 : decode b_MD_takeLease 244 = .ok (.ifCond .eq 21, 3) := by decide +kernel
theorem d_MD_takeLease_247 : decode b_MD_takeLease 247 = .ok (.aload_n 0, 1) := by decide +kernel
theorem d_MD_takeLease_248 : decode b_MD_takeLease 248 = .ok (.getfield 36, 3) := by decide +kernel
theorem d_MD_takeLease_251 : decode b_MD_takeLease 251 = .ok (.bipush 30, 2) := by decide +kernel
theorem d_MD_takeLease_253 : decode b_MD_takeLease 253 = .ok (.iload 5, 2) := by decide +kernel
theorem d_MD_takeLease_255 : decode b_MD_takeLease 255 = .ok (.imul, 1) := by decide +kernel
theorem d_MD_takeLease_256 : decode b_MD_takeLease 256 = .ok (.iload_n 3, 1) := by decide +kernel
theorem d_MD_takeLease_257 : decode b_MD_takeLease 257 = .ok (.iadd, 1) := by decide +kernel
theorem d_MD_takeLease_258 : decode b_MD_takeLease 258 = .ok (.aload_n 0, 1) := by decide +kernel
theorem d_MD_takeLease_259 : decode b_MD_takeLease 259 = .ok (.getfield 23, 3) := by decide +kernel
theorem d_MD_takeLease_262 : decode b_MD_takeLease 262 = .ok (.iload_n 3, 1) := by decide +kernel
theorem d_MD_takeLease_263 : decode b_MD_takeLease 263 = .ok (.iaload, 1) := by decide +kernel
theorem d_MD_takeLease_264 : decode b_MD_takeLease 264 = .ok (.iastore, 1) := by decide +kernel
theorem d_MD_takeLease_265 : decode b_MD_takeLease 265 = .ok (.iinc 5 1, 3) := by decide +kernel
theorem d_MD_takeLease_268 : decode b_MD_takeLease 268 = .ok (.goto (-37), 3) := by decide +kernel
theorem d_MD_takeLease_271 : decode b_MD_takeLease 271 = .ok (.aload_n 0, 1) := by decide +kernel
theorem d_MD_takeLease_272 : decode b_MD_takeLease 272 = .ok (.getfield 29, 3) := by decide +kernel
theorem d_MD_takeLease_275 : decode b_MD_takeLease 275 = .ok (.iload_n 3, 1) := by decide +kernel
theorem d_MD_takeLease_276 : decode b_MD_takeLease 276 = .ok (.aload_n 0, 1) := by decide +kernel
theorem d_MD_takeLease_277 : decode b_MD_takeLease 277 = .ok (.getfield 71, 3) := by decide +kernel
theorem d_MD_takeLease_280 : decode b_MD_takeLease 280 = .ok (.ldc2_w 104, 3) := by decide +kernel
theorem d_MD_takeLease_283 : decode b_MD_takeLease 283 = .ok (.dadd, 1) := by decide +kernel
theorem d_MD_takeLease_284 : decode b_MD_takeLease 284 = .ok (.dastore, 1) := by decide +kernel
theorem d_MD_takeLease_285 : decode b_MD_takeLease 285 = .ok (.iconst 0, 1) := by decide +kernel
theorem d_MD_takeLease_286 : decode b_MD_takeLease 286 = .ok (.ireturn, 1) := by decide +kernel
theorem d_MD_live_0 : decode b_MD_live 0 = .ok (.iconst 0, 1) := by decide +kernel
theorem d_MD_live_1 : decode b_MD_live 1 = .ok (.istore_n 2, 1) := by decide +kernel
theorem d_MD_live_2 : decode b_MD_live 2 = .ok (.iconst 0, 1) := by decide +kernel
theorem d_MD_live_3 : decode b_MD_live 3 = .ok (.istore_n 3, 1) := by decide +kernel
theorem d_MD_live_4 : decode b_MD_live 4 = .ok (.iload_n 3, 1) := by decide +kernel
theorem d_MD_live_5 : decode b_MD_live 5 = .ok (.iconst 5, 1) := by decide +kernel
theorem d_MD_live_6 : decode b_MD_live 6 = .ok (.if_icmp .ge 31, 3) := by decide +kernel
theorem d_MD_live_9 : decode b_MD_live 9 = .ok (.aload_n 0, 1) := by decide +kernel
theorem d_MD_live_10 : decode b_MD_live 10 = .ok (.getfield 32, 3) := by decide +kernel
theorem d_MD_live_13 : decode b_MD_live 13 = .ok (.iload_n 3, 1) := by decide +kernel
theorem d_MD_live_14 : decode b_MD_live 14 = .ok (.baload, 1) := by decide +kernel
theorem d_MD_live_15 : decode b_MD_live 15 = .ok (.ifCond .ne 16, 3) := by decide +kernel
theorem d_MD_live_18 : decode b_MD_live 18 = .ok (.iload_n 2, 1) := by decide +kernel
theorem d_MD_live_19 : decode b_MD_live 19 = .ok (.aload_n 0, 1) := by decide +kernel
theorem d_MD_live_20 : decode b_MD_live 20 = .ok (.getfield 26, 3) := by decide +kernel
theorem d_MD_live_23 : decode b_MD_live 23 = .ok (.iload_n 1, 1) := by decide +kernel
theorem d_MD_live_24 : decode b_MD_live 24 = .ok (.iaload, 1) := by decide +kernel
theorem d_MD_live_25 : decode b_MD_live 25 = .ok (.iconst 1, 1) := by decide +kernel
theorem d_MD_live_26 : decode b_MD_live 26 = .ok (.iload_n 3, 1) := by decide +kernel
theorem d_MD_live_27 : decode b_MD_live 27 = .ok (.ishl, 1) := by decide +kernel
theorem d_MD_live_28 : decode b_MD_live 28 = .ok (.iand, 1) := by decide +kernel
theorem d_MD_live_29 : decode b_MD_live 29 = .ok (.ior, 1) := by decide +kernel
theorem d_MD_live_30 : decode b_MD_live 30 = .ok (.istore_n 2, 1) := by decide +kernel
theorem d_MD_live_31 : decode b_MD_live 31 = .ok (.iinc 3 1, 3) := by decide +kernel
theorem d_MD_live_34 : decode b_MD_live 34 = .ok (.goto (-30), 3) := by decide +kernel
theorem d_MD_live_37 : decode b_MD_live 37 = .ok (.iload_n 2, 1) := by decide +kernel
theorem d_MD_live_38 : decode b_MD_live 38 = .ok (.ireturn, 1) := by decide +kernel
theorem d_MD_refs_0 : decode b_MD_refs 0 = .ok (.iconst 0, 1) := by decide +kernel
theorem d_MD_refs_1 : decode b_MD_refs 1 = .ok (.istore_n 2, 1) := by decide +kernel
theorem d_MD_refs_2 : decode b_MD_refs 2 = .ok (.iconst 0, 1) := by decide +kernel
theorem d_MD_refs_3 : decode b_MD_refs 3 = .ok (.istore_n 3, 1) := by decide +kernel
theorem d_MD_refs_4 : decode b_MD_refs 4 = .ok (.iload_n 3, 1) := by decide +kernel
theorem d_MD_refs_5 : decode b_MD_refs 5 = .ok (.bipush 8, 2) := by decide +kernel
theorem d_MD_refs_7 : decode b_MD_refs 7 = .ok (.if_icmp .ge 67, 3) := by decide +kernel
theorem d_MD_refs_10 : decode b_MD_refs 10 = .ok (.iconst 0, 1) := by decide +kernel
theorem d_MD_refs_11 : decode b_MD_refs 11 = .ok (.istore 4, 2) := by decide +kernel
theorem d_MD_refs_13 : decode b_MD_refs 13 = .ok (.iload 4, 2) := by decide +kernel
theorem d_MD_refs_15 : decode b_MD_refs 15 = .ok (.iconst 3, 1) := by decide +kernel
theorem d_MD_refs_16 : decode b_MD_refs 16 = .ok (.if_icmp .ge 52, 3) := by decide +kernel
theorem d_MD_refs_19 : decode b_MD_refs 19 = .ok (.iload_n 2, 1) := by decide +kernel
theorem d_MD_refs_20 : decode b_MD_refs 20 = .ok (.aload_n 0, 1) := by decide +kernel
theorem d_MD_refs_21 : decode b_MD_refs 21 = .ok (.getfield 7, 3) := by decide +kernel
theorem d_MD_refs_24 : decode b_MD_refs 24 = .ok (.iload_n 3, 1) := by decide +kernel
theorem d_MD_refs_25 : decode b_MD_refs 25 = .ok (.iaload, 1) := by decide +kernel
theorem d_MD_refs_26 : decode b_MD_refs 26 = .ok (.ifCond .eq 33, 3) := by decide +kernel
theorem d_MD_refs_29 : decode b_MD_refs 29 = .ok (.iload 4, 2) := by decide +kernel
theorem d_MD_refs_31 : decode b_MD_refs 31 = .ok (.aload_n 0, 1) := by decide +kernel
theorem d_MD_refs_32 : decode b_MD_refs 32 = .ok (.getfield 20, 3) := by decide +kernel
theorem d_MD_refs_35 : decode b_MD_refs 35 = .ok (.iload_n 3, 1) := by decide +kernel
theorem d_MD_refs_36 : decode b_MD_refs 36 = .ok (.iaload, 1) := by decide +kernel
theorem d_MD_refs_37 : decode b_MD_refs 37 = .ok (.if_icmp .ge 22, 3) := by decide +kernel
theorem d_MD_refs_40 : decode b_MD_refs 40 = .ok (.aload_n 0, 1) := by decide +kernel
theorem d_MD_refs_41 : decode b_MD_refs 41 = .ok (.getfield 17, 3) := by decide +kernel
theorem d_MD_refs_44 : decode b_MD_refs 44 = .ok (.iconst 3, 1) := by decide +kernel
theorem d_MD_refs_45 : decode b_MD_refs 45 = .ok (.iload_n 3, 1) := by decide +kernel
theorem d_MD_refs_46 : decode b_MD_refs 46 = .ok (.imul, 1) := by decide +kernel
theorem d_MD_refs_47 : decode b_MD_refs 47 = .ok (.iload 4, 2) := by decide +kernel
theorem d_MD_refs_49 : decode b_MD_refs 49 = .ok (.iadd, 1) := by decide +kernel
theorem d_MD_refs_50 : decode b_MD_refs 50 = .ok (.iaload, 1) := by decide +kernel
theorem d_MD_refs_51 : decode b_MD_refs 51 = .ok (.iload_n 1, 1) := by decide +kernel
theorem d_MD_refs_52 : decode b_MD_refs 52 = .ok (.if_icmp .ne 7, 3) := by decide +kernel
theorem d_MD_refs_55 : decode b_MD_refs 55 = .ok (.iconst 1, 1) := by decide +kernel
theorem d_MD_refs_56 : decode b_MD_refs 56 = .ok (.goto 4, 3) := by decide +kernel
theorem d_MD_refs_59 : decode b_MD_refs 59 = .ok (.iconst 0, 1) := by decide +kernel
theorem d_MD_refs_60 : decode b_MD_refs 60 = .ok (.iadd, 1) := by decide +kernel
theorem d_MD_refs_61 : decode b_MD_refs 61 = .ok (.istore_n 2, 1) := by decide +kernel
theorem d_MD_refs_62 : decode b_MD_refs 62 = .ok (.iinc 4 1, 3) := by decide +kernel
theorem d_MD_refs_65 : decode b_MD_refs 65 = .ok (.goto (-52), 3) := by decide +kernel
theorem d_MD_refs_68 : decode b_MD_refs 68 = .ok (.iinc 3 1, 3) := by decide +kernel
theorem d_MD_refs_71 : decode b_MD_refs 71 = .ok (.goto (-67), 3) := by decide +kernel
theorem d_MD_refs_74 : decode b_MD_refs 74 = .ok (.iload_n 2, 1) := by decide +kernel
theorem d_MD_refs_75 : decode b_MD_refs 75 = .ok (.ireturn, 1) := by decide +kernel
theorem d_MD_store_0 : decode b_MD_store 0 = .ok (.iconst 0, 1) := by decide +kernel
theorem d_MD_store_1 : decode b_MD_store 1 = .ok (.istore 4, 2) := by decide +kernel
theorem d_MD_store_3 : decode b_MD_store 3 = .ok (.iload 4, 2) := by decide +kernel
theorem d_MD_store_5 : decode b_MD_store 5 = .ok (.iconst 5, 1) := by decide +kernel
theorem d_MD_store_6 : decode b_MD_store 6 = .ok (.if_icmp .ge 70, 3) := by decide +kernel
theorem d_MD_store_9 : decode b_MD_store 9 = .ok (.aload_n 0, 1) := by decide +kernel
theorem d_MD_store_10 : decode b_MD_store 10 = .ok (.getfield 26, 3) := by decide +kernel
theorem d_MD_store_13 : decode b_MD_store 13 = .ok (.iload_n 1, 1) := by decide +kernel
theorem d_MD_store_14 : decode b_MD_store 14 = .ok (.iaload, 1) := by decide +kernel
theorem d_MD_store_15 : decode b_MD_store 15 = .ok (.iload 4, 2) := by decide +kernel
theorem d_MD_store_17 : decode b_MD_store 17 = .ok (.ishr, 1) := by decide +kernel
theorem d_MD_store_18 : decode b_MD_store 18 = .ok (.iconst 1, 1) := by decide +kernel
theorem d_MD_store_19 : decode b_MD_store 19 = .ok (.iand, 1) := by decide +kernel
theorem d_MD_store_20 : decode b_MD_store 20 = .ok (.ifCond .ne 6, 3) := by decide +kernel
theorem d_MD_store_23 : decode b_MD_store 23 = .ok (.goto 47, 3) := by decide +kernel
theorem d_MD_store_26 : decode b_MD_store 26 = .ok (.bipush 30, 2) := by decide +kernel
theorem d_MD_store_28 : decode b_MD_store 28 = .ok (.iload 4, 2) := by decide +kernel
theorem d_MD_store_30 : decode b_MD_store 30 = .ok (.imul, 1) := by decide +kernel
theorem d_MD_store_31 : decode b_MD_store 31 = .ok (.iload_n 1, 1) := by decide +kernel
theorem d_MD_store_32 : decode b_MD_store 32 = .ok (.iadd, 1) := by decide +kernel
theorem d_MD_store_33 : decode b_MD_store 33 = .ok (.istore 5, 2) := by decide +kernel
theorem d_MD_store_35 : decode b_MD_store 35 = .ok (.aload_n 0, 1) := by decide +kernel
theorem d_MD_store_36 : decode b_MD_store 36 = .ok (.getfield 42, 3) := by decide +kernel
theorem d_MD_store_39 : decode b_MD_store 39 = .ok (.iconst 4, 1) := by decide +kernel
theorem d_MD_store_40 : decode b_MD_store 40 = .ok (.iload 5, 2) := by decide +kernel
theorem d_MD_store_42 : decode b_MD_store 42 = .ok (.imul, 1) := by decide +kernel
theorem d_MD_store_43 : decode b_MD_store 43 = .ok (.iload_n 2, 1) := by decide +kernel
theorem d_MD_store_44 : decode b_MD_store 44 = .ok (.iadd, 1) := by decide +kernel
theorem d_MD_store_45 : decode b_MD_store 45 = .ok (.iload_n 3, 1) := by decide +kernel
theorem d_MD_store_46 : decode b_MD_store 46 = .ok (.iastore, 1) := by decide +kernel
theorem d_MD_store_47 : decode b_MD_store 47 = .ok (.aload_n 0, 1) := by decide +kernel
theorem d_MD_store_48 : decode b_MD_store 48 = .ok (.getfield 39, 3) := by decide +kernel
theorem d_MD_store_51 : decode b_MD_store 51 = .ok (.iload 5, 2) := by decide +kernel
theorem d_MD_store_53 : decode b_MD_store 53 = .ok (.iaload, 1) := by decide +kernel
theorem d_MD_store_54 : decode b_MD_store 54 = .ok (.iload_n 2, 1) := by decide +kernel
theorem d_MD_store_55 : decode b_MD_store 55 = .ok (.iconst 1, 1) := by decide +kernel
theorem d_MD_store_56 : decode b_MD_store 56 = .ok (.iadd, 1) := by decide +kernel
theorem d_MD_store_57 : decode b_MD_store 57 = .ok (.if_icmp .ge 13, 3) := by decide +kernel
theorem d_MD_store_60 : decode b_MD_store 60 = .ok (.aload_n 0, 1) := by decide +kernel
theorem d_MD_store_61 : decode b_MD_store 61 = .ok (.getfield 39, 3) := by decide +kernel
theorem d_MD_store_64 : decode b_MD_store 64 = .ok (.iload 5, 2) := by decide +kernel
theorem d_MD_store_66 : decode b_MD_store 66 = .ok (.iload_n 2, 1) := by decide +kernel
theorem d_MD_store_67 : decode b_MD_store 67 = .ok (.iconst 1, 1) := by decide +kernel
theorem d_MD_store_68 : decode b_MD_store 68 = .ok (.iadd, 1) := by decide +kernel
theorem d_MD_store_69 : decode b_MD_store 69 = .ok (.iastore, 1) := by decide +kernel
theorem d_MD_store_70 : decode b_MD_store 70 = .ok (.iinc 4 1, 3) := by decide +kernel
theorem d_MD_store_73 : decode b_MD_store 73 = .ok (.goto (-70), 3) := by decide +kernel
theorem d_MD_store_76 : decode b_MD_store 76 = .ok (.return_, 1) := by decide +kernel
theorem d_MD_append_0 : decode b_MD_append 0 = .ok (.aload_n 0, 1) := by decide +kernel
theorem d_MD_append_1 : decode b_MD_append 1 = .ok (.iconst 0, 1) := by decide +kernel
theorem d_MD_append_2 : decode b_MD_append 2 = .ok (.putfield 59, 3) := by decide +kernel
theorem d_MD_append_5 : decode b_MD_append 5 = .ok (.aload_n 0, 1) := by decide +kernel
theorem d_MD_append_6 : decode b_MD_append 6 = .ok (.iload_n 1, 1) := by decide +kernel
theorem d_MD_append_7 : decode b_MD_append 7 = .ok (.bipush 8, 2) := by decide +kernel
theorem d_MD_append_9 : decode b_MD_append 9 = .ok (.invokevirtual 63, 3) := by decide +kernel
theorem d_MD_append_12 : decode b_MD_append 12 = .ok (.ifCond .eq 9, 3) := by decide +kernel
theorem d_MD_append_15 : decode b_MD_append 15 = .ok (.aload_n 0, 1) := by decide +kernel
theorem d_MD_append_16 : decode b_MD_append 16 = .ok (.iconst 1, 1) := by decide +kernel
theorem d_MD_append_17 : decode b_MD_append 17 = .ok (.invokevirtual 67, 3) := by decide +kernel
theorem d_MD_append_20 : decode b_MD_append 20 = .ok (.ireturn, 1) := by decide +kernel
theorem d_MD_append_21 : decode b_MD_append 21 = .ok (.aload_n 0, 1) := by decide +kernel
theorem d_MD_append_22 : decode b_MD_append 22 = .ok (.getfield 7, 3) := by decide +kernel
theorem d_MD_append_25 : decode b_MD_append 25 = .ok (.iload_n 1, 1) := by decide +kernel
theorem d_MD_append_26 : decode b_MD_append 26 = .ok (.iaload, 1) := by decide +kernel
theorem d_MD_append_27 : decode b_MD_append 27 = .ok (.iconst 1, 1) := by decide +kernel
theorem d_MD_append_28 : decode b_MD_append 28 = .ok (.if_icmp .eq 9, 3) := by decide +kernel
theorem d_MD_append_31 : decode b_MD_append 31 = .ok (.aload_n 0, 1) := by decide +kernel
theorem d_MD_append_32 : decode b_MD_append 32 = .ok (.iconst 2, 1) := by decide +kernel
theorem d_MD_append_33 : decode b_MD_append 33 = .ok (.invokevirtual 67, 3) := by decide +kernel
theorem d_MD_append_36 : decode b_MD_append 36 = .ok (.ireturn, 1) := by decide +kernel
theorem d_MD_append_37 : decode b_MD_append 37 = .ok (.aload_n 0, 1) := by decide +kernel
theorem d_MD_append_38 : decode b_MD_append 38 = .ok (.getfield 20, 3) := by decide +kernel
theorem d_MD_append_41 : decode b_MD_append 41 = .ok (.iload_n 1, 1) := by decide +kernel
theorem d_MD_append_42 : decode b_MD_append 42 = .ok (.iaload, 1) := by decide +kernel
theorem d_MD_append_43 : decode b_MD_append 43 = .ok (.ifCond .eq 28, 3) := by decide +kernel
theorem d_MD_append_46 : decode b_MD_append 46 = .ok (.aload_n 0, 1) := by decide +kernel
theorem d_MD_append_47 : decode b_MD_append 47 = .ok (.aload_n 0, 1) := by decide +kernel
theorem d_MD_append_48 : decode b_MD_append 48 = .ok (.getfield 17, 3) := by decide +kernel
theorem d_MD_append_51 : decode b_MD_append 51 = .ok (.iconst 3, 1) := by decide +kernel
theorem d_MD_append_52 : decode b_MD_append 52 = .ok (.iload_n 1, 1) := by decide +kernel
theorem d_MD_append_53 : decode b_MD_append 53 = .ok (.imul, 1) := by decide +kernel
theorem d_MD_append_54 : decode b_MD_append 54 = .ok (.aload_n 0, 1) := by decide +kernel
theorem d_MD_append_55 : decode b_MD_append 55 = .ok (.getfield 20, 3) := by decide +kernel
theorem d_MD_append_58 : decode b_MD_append 58 = .ok (.iload_n 1, 1) := by decide +kernel
theorem d_MD_append_59 : decode b_MD_append 59 = .ok (.iaload, 1) := by decide +kernel
theorem d_MD_append_60 : decode b_MD_append 60 = .ok (.iadd, 1) := by decide +kernel
theorem d_MD_append_61 : decode b_MD_append 61 = .ok (.iconst 1, 1) := by decide +kernel
theorem d_MD_append_62 : decode b_MD_append 62 = .ok (.isub, 1) := by decide +kernel
theorem d_MD_append_63 : decode b_MD_append 63 = .ok (.iaload, 1) := by decide +kernel
theorem d_MD_append_64 : decode b_MD_append 64 = .ok (.invokevirtual 115, 3) := by decide +kernel
theorem d_MD_append_67 : decode b_MD_append 67 = .ok (.iconst 4, 1) := by decide +kernel
theorem d_MD_append_68 : decode b_MD_append 68 = .ok (.if_icmp .ne 28, 3) := by decide +kernel
theorem d_MD_append_71 : decode b_MD_append 71 = .ok (.aload_n 0, 1) := by decide +kernel
theorem d_MD_append_72 : decode b_MD_append 72 = .ok (.iload_n 1, 1) := by decide +kernel
theorem d_MD_append_73 : decode b_MD_append 73 = .ok (.invokevirtual 89, 3) := by decide +kernel
theorem d_MD_append_76 : decode b_MD_append 76 = .ok (.istore_n 3, 1) := by decide +kernel
theorem d_MD_append_77 : decode b_MD_append 77 = .ok (.iload_n 3, 1) := by decide +kernel
theorem d_MD_append_78 : decode b_MD_append 78 = .ok (.ifCond .le 18, 3) := by decide +kernel
theorem d_MD_append_81 : decode b_MD_append 81 = .ok (.aload_n 0, 1) := by decide +kernel
theorem d_MD_append_82 : decode b_MD_append 82 = .ok (.iload_n 3, 1) := by decide +kernel
theorem d_MD_append_83 : decode b_MD_append 83 = .ok (.iconst 1, 1) := by decide +kernel
theorem d_MD_append_84 : decode b_MD_append 84 = .ok (.if_icmp .ne 7, 3) := by decide +kernel
theorem d_MD_append_87 : decode b_MD_append 87 = .ok (.iconst 5, 1) := by decide +kernel
theorem d_MD_append_88 : decode b_MD_append 88 = .ok (.goto 4, 3) := by decide +kernel
theorem d_MD_append_91 : decode b_MD_append 91 = .ok (.iconst 3, 1) := by decide +kernel
theorem d_MD_append_92 : decode b_MD_append 92 = .ok (.invokevirtual 67, 3) := by decide +kernel
theorem d_MD_append_95 : decode b_MD_append 95 = .ok (.ireturn, 1) := by decide +kernel
theorem d_MD_append_96 : decode b_MD_append 96 = .ok (.aload_n 0, 1) := by decide +kernel
theorem d_MD_append_97 : decode b_MD_append 97 = .ok (.getfield 20, 3) := by decide +kernel
theorem d_MD_append_100 : decode b_MD_append 100 = .ok (.iload_n 1, 1) := by decide +kernel
theorem d_MD_append_101 : decode b_MD_append 101 = .ok (.iaload, 1) := by decide +kernel
theorem d_MD_append_102 : decode b_MD_append 102 = .ok (.iconst 1, 1) := by decide +kernel
theorem d_MD_append_103 : decode b_MD_append 103 = .ok (.isub, 1) := by decide +kernel
theorem d_MD_append_104 : decode b_MD_append 104 = .ok (.istore_n 3, 1) := by decide +kernel
theorem d_MD_append_105 : decode b_MD_append 105 = .ok (.aload_n 0, 1) := by decide +kernel
theorem d_MD_append_106 : decode b_MD_append 106 = .ok (.iload_n 1, 1) := by decide +kernel
theorem d_MD_append_107 : decode b_MD_append 107 = .ok (.iload_n 3, 1) := by decide +kernel
theorem d_MD_append_108 : decode b_MD_append 108 = .ok (.invokevirtual 106, 3) := by decide +kernel
theorem d_MD_append_111 : decode b_MD_append 111 = .ok (.istore 4, 2) := by decide +kernel
theorem d_MD_append_113 : decode b_MD_append 113 = .ok (.iload 4, 2) := by decide +kernel
theorem d_MD_append_115 : decode b_MD_append 115 = .ok (.ifCond .le 10, 3) := by decide +kernel
theorem d_MD_append_118 : decode b_MD_append 118 = .ok (.aload_n 0, 1) := by decide +kernel
theorem d_MD_append_119 : decode b_MD_append 119 = .ok (.iload 4, 2) := by decide +kernel
theorem d_MD_append_121 : decode b_MD_append 121 = .ok (.invokevirtual 67, 3) := by decide +kernel
theorem d_MD_append_124 : decode b_MD_append 124 = .ok (.ireturn, 1) := by decide +kernel
theorem d_MD_append_125 : decode b_MD_append 125 = .ok (.aload_n 0, 1) := by decide +kernel
theorem d_MD_append_126 : decode b_MD_append 126 = .ok (.getfield 17, 3) := by decide +kernel
theorem d_MD_append_129 : decode b_MD_append 129 = .ok (.iconst 3, 1) := by decide +kernel
theorem d_MD_append_130 : decode b_MD_append 130 = .ok (.iload_n 1, 1) := by decide +kernel
theorem d_MD_append_131 : decode b_MD_append 131 = .ok (.imul, 1) := by decide +kernel
theorem d_MD_append_132 : decode b_MD_append 132 = .ok (.iload_n 3, 1) := by decide +kernel
theorem d_MD_append_133 : decode b_MD_append 133 = .ok (.iadd, 1) := by decide +kernel
theorem d_MD_append_134 : decode b_MD_append 134 = .ok (.iaload, 1) := by decide +kernel
theorem d_MD_append_135 : decode b_MD_append 135 = .ok (.istore 5, 2) := by decide +kernel
theorem d_MD_append_137 : decode b_MD_append 137 = .ok (.aload_n 0, 1) := by decide +kernel
theorem d_MD_append_138 : decode b_MD_append 138 = .ok (.iload 5, 2) := by decide +kernel
theorem d_MD_append_140 : decode b_MD_append 140 = .ok (.invokevirtual 115, 3) := by decide +kernel
theorem d_MD_append_143 : decode b_MD_append 143 = .ok (.istore 6, 2) := by decide +kernel
theorem d_MD_append_145 : decode b_MD_append 145 = .ok (.aload_n 0, 1) := by decide +kernel
theorem d_MD_append_146 : decode b_MD_append 146 = .ok (.iload 5, 2) := by decide +kernel
theorem d_MD_append_148 : decode b_MD_append 148 = .ok (.iload 6, 2) := by decide +kernel
theorem d_MD_append_150 : decode b_MD_append 150 = .ok (.iload_n 2, 1) := by decide +kernel
theorem d_MD_append_151 : decode b_MD_append 151 = .ok (.invokevirtual 109, 3) := by decide +kernel
theorem d_MD_append_154 : decode b_MD_append 154 = .ok (.iconst 4, 1) := by decide +kernel
theorem d_MD_append_155 : decode b_MD_append 155 = .ok (.iload_n 3, 1) := by decide +kernel
theorem d_MD_append_156 : decode b_MD_append 156 = .ok (.imul, 1) := by decide +kernel
theorem d_MD_append_157 : decode b_MD_append 157 = .ok (.iload 6, 2) := by decide +kernel
theorem d_MD_append_159 : decode b_MD_append 159 = .ok (.iadd, 1) := by decide +kernel
theorem d_MD_append_160 : decode b_MD_append 160 = .ok (.ireturn, 1) := by decide +kernel
theorem d_MD_usedIn_0 : decode b_MD_usedIn 0 = .ok (.aload_n 0, 1) := by decide +kernel
theorem d_MD_usedIn_1 : decode b_MD_usedIn 1 = .ok (.getfield 39, 3) := by decide +kernel
theorem d_MD_usedIn_4 : decode b_MD_usedIn 4 = .ok (.bipush 30, 2) := by decide +kernel
theorem d_MD_usedIn_6 : decode b_MD_usedIn 6 = .ok (.aload_n 0, 1) := by decide +kernel
theorem d_MD_usedIn_7 : decode b_MD_usedIn 7 = .ok (.aload_n 0, 1) := by decide +kernel
theorem d_MD_usedIn_8 : decode b_MD_usedIn 8 = .ok (.getfield 26, 3) := by decide +kernel
theorem d_MD_usedIn_11 : decode b_MD_usedIn 11 = .ok (.iload_n 1, 1) := by decide +kernel
theorem d_MD_usedIn_12 : decode b_MD_usedIn 12 = .ok (.iaload, 1) := by decide +kernel
theorem d_MD_usedIn_13 : decode b_MD_usedIn 13 = .ok (.invokevirtual 112, 3) := by decide +kernel
theorem d_MD_usedIn_16 : decode b_MD_usedIn 16 = .ok (.imul, 1) := by decide +kernel
theorem d_MD_usedIn_17 : decode b_MD_usedIn 17 = .ok (.iload_n 1, 1) := by decide +kernel
theorem d_MD_usedIn_18 : decode b_MD_usedIn 18 = .ok (.iadd, 1) := by decide +kernel
theorem d_MD_usedIn_19 : decode b_MD_usedIn 19 = .ok (.iaload, 1) := by decide +kernel
theorem d_MD_usedIn_20 : decode b_MD_usedIn 20 = .ok (.ireturn, 1) := by decide +kernel
theorem d_MD_first_0 : decode b_MD_first 0 = .ok (.iconst 0, 1) := by decide +kernel
theorem d_MD_first_1 : decode b_MD_first 1 = .ok (.istore_n 2, 1) := by decide +kernel
theorem d_MD_first_2 : decode b_MD_first 2 = .ok (.iload_n 2, 1) := by decide +kernel
theorem d_MD_first_3 : decode b_MD_first 3 = .ok (.iconst 5, 1) := by decide +kernel
theorem d_MD_first_4 : decode b_MD_first 4 = .ok (.if_icmp .ge 17, 3) := by decide +kernel
theorem d_MD_first_7 : decode b_MD_first 7 = .ok (.iload_n 1, 1) := by decide +kernel
theorem d_MD_first_8 : decode b_MD_first 8 = .ok (.iload_n 2, 1) := by decide +kernel
theorem d_MD_first_9 : decode b_MD_first 9 = .ok (.ishr, 1) := by decide +kernel
theorem d_MD_first_10 : decode b_MD_first 10 = .ok (.iconst 1, 1) := by decide +kernel
theorem d_MD_first_11 : decode b_MD_first 11 = .ok (.iand, 1) := by decide +kernel
theorem d_MD_first_12 : decode b_MD_first 12 = .ok (.ifCond .ne 9, 3) := by decide +kernel
theorem d_MD_first_15 : decode b_MD_first 15 = .ok (.iinc 2 1, 3) := by decide +kernel
theorem d_MD_first_18 : decode b_MD_first 18 = .ok (.goto (-16), 3) := by decide +kernel
theorem d_MD_first_21 : decode b_MD_first 21 = .ok (.iload_n 2, 1) := by decide +kernel
theorem d_MD_first_22 : decode b_MD_first 22 = .ok (.ireturn, 1) := by decide +kernel
theorem d_MD_read_0 : decode b_MD_read 0 = .ok (.aload_n 0, 1) := by decide +kernel
theorem d_MD_read_1 : decode b_MD_read 1 = .ok (.iload_n 1, 1) := by decide +kernel
theorem d_MD_read_2 : decode b_MD_read 2 = .ok (.iconst 3, 1) := by decide +kernel
theorem d_MD_read_3 : decode b_MD_read 3 = .ok (.invokevirtual 63, 3) := by decide +kernel
theorem d_MD_read_6 : decode b_MD_read 6 = .ok (.ifCond .ne 42, 3) := by decide +kernel
theorem d_MD_read_9 : decode b_MD_read 9 = .ok (.aload_n 0, 1) := by decide +kernel
theorem d_MD_read_10 : decode b_MD_read 10 = .ok (.iload_n 2, 1) := by decide +kernel
theorem d_MD_read_11 : decode b_MD_read 11 = .ok (.bipush 8, 2) := by decide +kernel
theorem d_MD_read_13 : decode b_MD_read 13 = .ok (.invokevirtual 63, 3) := by decide +kernel
theorem d_MD_read_16 : decode b_MD_read 16 = .ok (.ifCond .ne 32, 3) := by decide +kernel
theorem d_MD_read_19 : decode b_MD_read 19 = .ok (.aload_n 0, 1) := by decide +kernel
theorem d_MD_read_20 : decode b_MD_read 20 = .ok (.iload_n 3, 1) := by decide +kernel
theorem d_MD_read_21 : decode b_MD_read 21 = .ok (.iconst 3, 1) := by decide +kernel
theorem d_MD_read_22 : decode b_MD_read 22 = .ok (.invokevirtual 63, 3) := by decide +kernel
theorem d_MD_read_25 : decode b_MD_read 25 = .ok (.ifCond .ne 23, 3) := by decide +kernel
theorem d_MD_read_28 : decode b_MD_read 28 = .ok (.aload_n 0, 1) := by decide +kernel
theorem d_MD_read_29 : decode b_MD_read 29 = .ok (.iload 4, 2) := by decide +kernel
theorem d_MD_read_31 : decode b_MD_read 31 = .ok (.iconst 4, 1) := by decide +kernel
theorem d_MD_read_32 : decode b_MD_read 32 = .ok (.invokevirtual 63, 3) := by decide +kernel
theorem d_MD_read_35 : decode b_MD_read 35 = .ok (.ifCond .ne 13, 3) := by decide +kernel
theorem d_MD_read_38 : decode b_MD_read 38 = .ok (.aload_n 0, 1) := by decide +kernel
theorem d_MD_read_39 : decode b_MD_read 39 = .ok (.iload 5, 2) := by decide +kernel
theorem d_MD_read_41 : decode b_MD_read 41 = .ok (.iconst 5, 1) := by decide +kernel
theorem d_MD_read_42 : decode b_MD_read 42 = .ok (.invokevirtual 63, 3) := by decide +kernel
theorem d_MD_read_45 : decode b_MD_read 45 = .ok (.ifCond .eq 7, 3) := by decide +kernel
theorem d_MD_read_48 : decode b_MD_read 48 = .ok (.iconst 1, 1) := by decide +kernel
theorem d_MD_read_49 : decode b_MD_read 49 = .ok (.goto 4, 3) := by decide +kernel
theorem d_MD_read_52 : decode b_MD_read 52 = .ok (.iconst 0, 1) := by decide +kernel
theorem d_MD_read_53 : decode b_MD_read 53 = .ok (.istore 6, 2) := by decide +kernel
theorem d_MD_read_55 : decode b_MD_read 55 = .ok (.aload_n 0, 1) := by decide +kernel
theorem d_MD_read_56 : decode b_MD_read 56 = .ok (.iload 6, 2) := by decide +kernel
theorem d_MD_read_58 : decode b_MD_read 58 = .ok (.ifCond .eq 7, 3) := by decide +kernel
theorem d_MD_read_61 : decode b_MD_read 61 = .ok (.iconst 1, 1) := by decide +kernel
theorem d_MD_read_62 : decode b_MD_read 62 = .ok (.goto 10, 3) := by decide +kernel
theorem d_MD_read_65 : decode b_MD_read 65 = .ok (.aload_n 0, 1) := by decide +kernel
theorem d_MD_read_66 : decode b_MD_read 66 = .ok (.iload_n 1, 1) := by decide +kernel
theorem d_MD_read_67 : decode b_MD_read 67 = .ok (.iload_n 2, 1) := by decide +kernel
theorem d_MD_read_68 : decode b_MD_read 68 = .ok (.iload_n 3, 1) := by decide +kernel
theorem d_MD_read_69 : decode b_MD_read 69 = .ok (.invokevirtual 94, 3) := by decide +kernel
theorem d_MD_read_72 : decode b_MD_read 72 = .ok (.putfield 59, 3) := by decide +kernel
theorem d_MD_read_75 : decode b_MD_read 75 = .ok (.aload_n 0, 1) := by decide +kernel
theorem d_MD_read_76 : decode b_MD_read 76 = .ok (.getfield 59, 3) := by decide +kernel
theorem d_MD_read_79 : decode b_MD_read 79 = .ok (.iconst 3, 1) := by decide +kernel
theorem d_MD_read_80 : decode b_MD_read 80 = .ok (.if_icmp .ne 8, 3) := by decide +kernel
theorem d_MD_read_83 : decode b_MD_read 83 = .ok (.aload_n 0, 1) := by decide +kernel
theorem d_MD_read_84 : decode b_MD_read 84 = .ok (.iconst 5, 1) := by decide +kernel
theorem d_MD_read_85 : decode b_MD_read 85 = .ok (.putfield 59, 3) := by decide +kernel
theorem d_MD_read_88 : decode b_MD_read 88 = .ok (.aload_n 0, 1) := by decide +kernel
theorem d_MD_read_89 : decode b_MD_read 89 = .ok (.getfield 59, 3) := by decide +kernel
theorem d_MD_read_92 : decode b_MD_read 92 = .ok (.ifCond .le 5, 3) := by decide +kernel
theorem d_MD_read_95 : decode b_MD_read 95 = .ok (.iconst 0, 1) := by decide +kernel
theorem d_MD_read_96 : decode b_MD_read 96 = .ok (.ireturn, 1) := by decide +kernel
theorem d_MD_read_97 : decode b_MD_read 97 = .ok (.bipush 24, 2) := by decide +kernel
theorem d_MD_read_99 : decode b_MD_read 99 = .ok (.iload_n 1, 1) := by decide +kernel
theorem d_MD_read_100 : decode b_MD_read 100 = .ok (.imul, 1) := by decide +kernel
theorem d_MD_read_101 : decode b_MD_read 101 = .ok (.iconst 3, 1) := by decide +kernel
theorem d_MD_read_102 : decode b_MD_read 102 = .ok (.iload_n 2, 1) := by decide +kernel
theorem d_MD_read_103 : decode b_MD_read 103 = .ok (.imul, 1) := by decide +kernel
theorem d_MD_read_104 : decode b_MD_read 104 = .ok (.iadd, 1) := by decide +kernel
theorem d_MD_read_105 : decode b_MD_read 105 = .ok (.iload_n 3, 1) := by decide +kernel
theorem d_MD_read_106 : decode b_MD_read 106 = .ok (.iadd, 1) := by decide +kernel
theorem d_MD_read_107 : decode b_MD_read 107 = .ok (.istore 7, 2) := by decide +kernel
theorem d_MD_read_109 : decode b_MD_read 109 = .ok (.aload_n 0, 1) := by decide +kernel
theorem d_MD_read_110 : decode b_MD_read 110 = .ok (.getfield 51, 3) := by decide +kernel
theorem d_MD_read_113 : decode b_MD_read 113 = .ok (.iload 7, 2) := by decide +kernel
theorem d_MD_read_115 : decode b_MD_read 115 = .ok (.iaload, 1) := by decide +kernel
theorem d_MD_read_116 : decode b_MD_read 116 = .ok (.iload 5, 2) := by decide +kernel
theorem d_MD_read_118 : decode b_MD_read 118 = .ok (.ishr, 1) := by decide +kernel
theorem d_MD_read_119 : decode b_MD_read 119 = .ok (.iconst 1, 1) := by decide +kernel
theorem d_MD_read_120 : decode b_MD_read 120 = .ok (.iand, 1) := by decide +kernel
theorem d_MD_read_121 : decode b_MD_read 121 = .ok (.ifCond .ne 9, 3) := by decide +kernel
theorem d_MD_read_124 : decode b_MD_read 124 = .ok (.aload_n 0, 1) := by decide +kernel
theorem d_MD_read_125 : decode b_MD_read 125 = .ok (.iconst 4, 1) := by decide +kernel
theorem d_MD_read_126 : decode b_MD_read 126 = .ok (.invokevirtual 67, 3) := by decide +kernel
theorem d_MD_read_129 : decode b_MD_read 129 = .ok (.ireturn, 1) := by decide +kernel
theorem d_MD_read_130 : decode b_MD_read 130 = .ok (.bipush 30, 2) := by decide +kernel
theorem d_MD_read_132 : decode b_MD_read 132 = .ok (.iload 5, 2) := by decide +kernel
theorem d_MD_read_134 : decode b_MD_read 134 = .ok (.imul, 1) := by decide +kernel
theorem d_MD_read_135 : decode b_MD_read 135 = .ok (.aload_n 0, 1) := by decide +kernel
theorem d_MD_read_136 : decode b_MD_read 136 = .ok (.getfield 45, 3) := by decide +kernel
theorem d_MD_read_139 : decode b_MD_read 139 = .ok (.iload 7, 2) := by decide +kernel
theorem d_MD_read_141 : decode b_MD_read 141 = .ok (.iaload, 1) := by decide +kernel
theorem d_MD_read_142 : decode b_MD_read 142 = .ok (.iadd, 1) := by decide +kernel
theorem d_MD_read_143 : decode b_MD_read 143 = .ok (.istore 8, 2) := by decide +kernel
theorem d_MD_read_145 : decode b_MD_read 145 = .ok (.aload_n 0, 1) := by decide +kernel
theorem d_MD_read_146 : decode b_MD_read 146 = .ok (.getfield 32, 3) := by decide +kernel
theorem d_MD_read_149 : decode b_MD_read 149 = .ok (.iload 5, 2) := by decide +kernel
theorem d_MD_read_151 : decode b_MD_read 151 = .ok (.baload, 1) := by decide +kernel
theorem d_MD_read_152 : decode b_MD_read 152 = .ok (.ifCond .ne 30, 3) := by decide +kernel
theorem d_MD_read_155 : decode b_MD_read 155 = .ok (.aload_n 0, 1) := by decide +kernel
theorem d_MD_read_156 : decode b_MD_read 156 = .ok (.getfield 36, 3) := by decide +kernel
theorem d_MD_read_159 : decode b_MD_read 159 = .ok (.iload 8, 2) := by decide +kernel
theorem d_MD_read_161 : decode b_MD_read 161 = .ok (.iaload, 1) := by decide +kernel
theorem d_MD_read_162 : decode b_MD_read 162 = .ok (.ifCond .eq 20, 3) := by decide +kernel
theorem d_MD_read_165 : decode b_MD_read 165 = .ok (.aload_n 0, 1) := by decide +kernel
theorem d_MD_read_166 : decode b_MD_read 166 = .ok (.getfield 36, 3) := by decide +kernel
theorem d_MD_read_169 : decode b_MD_read 169 = .ok (.iload 8, 2) := by decide +kernel
theorem d_MD_read_171 : decode b_MD_read 171 = .ok (.iaload, 1) := by decide +kernel
theorem d_MD_read_172 : decode b_MD_read 172 = .ok (.aload_n 0, 1) := by decide +kernel
theorem d_MD_read_173 : decode b_MD_read 173 = .ok (.getfield 48, 3) := by decide +kernel
theorem d_MD_read_176 : decode b_MD_read 176 = .ok (.iload 7, 2) := by decide +kernel
theorem d_MD_read_178 : decode b_MD_read 178 = .ok (.iaload, 1) := by decide +kernel
theorem d_MD_read_179 : decode b_MD_read 179 = .ok (.if_icmp .ge 9, 3) := by decide +kernel
theorem d_MD_read_182 : decode b_MD_read 182 = .ok (.aload_n 0, 1) := by decide +kernel
theorem d_MD_read_183 : decode b_MD_read 183 = .ok (.iconst 3, 1) := by decide +kernel
theorem d_MD_read_184 : decode b_MD_read 184 = .ok (.invokevirtual 67, 3) := by decide +kernel
theorem d_MD_read_187 : decode b_MD_read 187 = .ok (.ireturn, 1) := by decide +kernel
theorem d_MD_read_188 : decode b_MD_read 188 = .ok (.aload_n 0, 1) := by decide +kernel
theorem d_MD_read_189 : decode b_MD_read 189 = .ok (.getfield 42, 3) := by decide +kernel
theorem d_MD_read_192 : decode b_MD_read 192 = .ok (.iconst 4, 1) := by decide +kernel
theorem d_MD_read_193 : decode b_MD_read 193 = .ok (.iload 8, 2) := by decide +kernel
theorem d_MD_read_195 : decode b_MD_read 195 = .ok (.imul, 1) := by decide +kernel
theorem d_MD_read_196 : decode b_MD_read 196 = .ok (.iload 4, 2) := by decide +kernel
theorem d_MD_read_198 : decode b_MD_read 198 = .ok (.iadd, 1) := by decide +kernel
theorem d_MD_read_199 : decode b_MD_read 199 = .ok (.iaload, 1) := by decide +kernel
theorem d_MD_read_200 : decode b_MD_read 200 = .ok (.ireturn, 1) := by decide +kernel
theorem d_MD_up_0 : decode b_MD_up 0 = .ok (.aload_n 0, 1) := by decide +kernel
theorem d_MD_up_1 : decode b_MD_up 1 = .ok (.iconst 0, 1) := by decide +kernel
theorem d_MD_up_2 : decode b_MD_up 2 = .ok (.putfield 59, 3) := by decide +kernel
theorem d_MD_up_5 : decode b_MD_up 5 = .ok (.aload_n 0, 1) := by decide +kernel
theorem d_MD_up_6 : decode b_MD_up 6 = .ok (.iload_n 1, 1) := by decide +kernel
theorem d_MD_up_7 : decode b_MD_up 7 = .ok (.iconst 5, 1) := by decide +kernel
theorem d_MD_up_8 : decode b_MD_up 8 = .ok (.invokevirtual 63, 3) := by decide +kernel
theorem d_MD_up_11 : decode b_MD_up 11 = .ok (.ifCond .eq 9, 3) := by decide +kernel
theorem d_MD_up_14 : decode b_MD_up 14 = .ok (.aload_n 0, 1) := by decide +kernel
theorem d_MD_up_15 : decode b_MD_up 15 = .ok (.iconst 1, 1) := by decide +kernel
theorem d_MD_up_16 : decode b_MD_up 16 = .ok (.invokevirtual 67, 3) := by decide +kernel
theorem d_MD_up_19 : decode b_MD_up 19 = .ok (.ireturn, 1) := by decide +kernel
theorem d_MD_up_20 : decode b_MD_up 20 = .ok (.aload_n 0, 1) := by decide +kernel
theorem d_MD_up_21 : decode b_MD_up 21 = .ok (.getfield 32, 3) := by decide +kernel
theorem d_MD_up_24 : decode b_MD_up 24 = .ok (.iload_n 1, 1) := by decide +kernel
theorem d_MD_up_25 : decode b_MD_up 25 = .ok (.iload_n 2, 1) := by decide +kernel
theorem d_MD_up_26 : decode b_MD_up 26 = .ok (.ifCond .ne 7, 3) := by decide +kernel
theorem d_MD_up_29 : decode b_MD_up 29 = .ok (.iconst 1, 1) := by decide +kernel
theorem d_MD_up_30 : decode b_MD_up 30 = .ok (.goto 4, 3) := by decide +kernel
theorem d_MD_up_33 : decode b_MD_up 33 = .ok (.iconst 0, 1) := by decide +kernel
theorem d_MD_up_34 : decode b_MD_up 34 = .ok (.bastore, 1) := by decide +kernel
theorem d_MD_up_35 : decode b_MD_up 35 = .ok (.aload_n 0, 1) := by decide +kernel
theorem d_MD_up_36 : decode b_MD_up 36 = .ok (.iload_n 1, 1) := by decide +kernel
theorem d_MD_up_37 : decode b_MD_up 37 = .ok (.invokevirtual 75, 3) := by decide +kernel
theorem d_MD_up_40 : decode b_MD_up 40 = .ok (.ireturn, 1) := by decide +kernel
theorem d_MD_report_0 : decode b_MD_report 0 = .ok (.aload_n 0, 1) := by decide +kernel
theorem d_MD_report_1 : decode b_MD_report 1 = .ok (.iconst 0, 1) := by decide +kernel
theorem d_MD_report_2 : decode b_MD_report 2 = .ok (.putfield 59, 3) := by decide +kernel
theorem d_MD_report_5 : decode b_MD_report 5 = .ok (.aload_n 0, 1) := by decide +kernel
theorem d_MD_report_6 : decode b_MD_report 6 = .ok (.iload_n 1, 1) := by decide +kernel
theorem d_MD_report_7 : decode b_MD_report 7 = .ok (.iconst 5, 1) := by decide +kernel
theorem d_MD_report_8 : decode b_MD_report 8 = .ok (.invokevirtual 63, 3) := by decide +kernel
theorem d_MD_report_11 : decode b_MD_report 11 = .ok (.ifCond .eq 9, 3) := by decide +kernel
theorem d_MD_report_14 : decode b_MD_report 14 = .ok (.aload_n 0, 1) := by decide +kernel
theorem d_MD_report_15 : decode b_MD_report 15 = .ok (.iconst 1, 1) := by decide +kernel
theorem d_MD_report_16 : decode b_MD_report 16 = .ok (.invokevirtual 67, 3) := by decide +kernel
theorem d_MD_report_19 : decode b_MD_report 19 = .ok (.ireturn, 1) := by decide +kernel
theorem d_MD_report_20 : decode b_MD_report 20 = .ok (.aload_n 0, 1) := by decide +kernel
theorem d_MD_report_21 : decode b_MD_report 21 = .ok (.getfield 32, 3) := by decide +kernel
theorem d_MD_report_24 : decode b_MD_report 24 = .ok (.iload_n 1, 1) := by decide +kernel
theorem d_MD_report_25 : decode b_MD_report 25 = .ok (.baload, 1) := by decide +kernel
theorem d_MD_report_26 : decode b_MD_report 26 = .ok (.ifCond .eq 9, 3) := by decide +kernel
theorem d_MD_report_29 : decode b_MD_report 29 = .ok (.aload_n 0, 1) := by decide +kernel
theorem d_MD_report_30 : decode b_MD_report 30 = .ok (.iconst 2, 1) := by decide +kernel
theorem d_MD_report_31 : decode b_MD_report 31 = .ok (.invokevirtual 67, 3) := by decide +kernel
theorem d_MD_report_34 : decode b_MD_report 34 = .ok (.ireturn, 1) := by decide +kernel
theorem d_MD_report_35 : decode b_MD_report 35 = .ok (.iconst 0, 1) := by decide +kernel
theorem d_MD_report_36 : decode b_MD_report 36 = .ok (.istore_n 2, 1) := by decide +kernel
theorem d_MD_report_37 : decode b_MD_report 37 = .ok (.iconst 0, 1) := by decide +kernel
theorem d_MD_report_38 : decode b_MD_report 38 = .ok (.istore_n 3, 1) := by decide +kernel
theorem d_MD_report_39 : decode b_MD_report 39 = .ok (.iload_n 3, 1) := by decide +kernel
theorem d_MD_report_40 : decode b_MD_report 40 = .ok (.aload_n 0, 1) := by decide +kernel
theorem d_MD_report_41 : decode b_MD_report 41 = .ok (.getfield 78, 3) := by decide +kernel
theorem d_MD_report_44 : decode b_MD_report 44 = .ok (.if_icmp .ge 94, 3) := by decide +kernel
theorem d_MD_report_47 : decode b_MD_report 47 = .ok (.bipush 30, 2) := by decide +kernel
theorem d_MD_report_49 : decode b_MD_report 49 = .ok (.iload_n 1, 1) := by decide +kernel
theorem d_MD_report_50 : decode b_MD_report 50 = .ok (.imul, 1) := by decide +kernel
theorem d_MD_report_51 : decode b_MD_report 51 = .ok (.iload_n 3, 1) := by decide +kernel
theorem d_MD_report_52 : decode b_MD_report 52 = .ok (.iadd, 1) := by decide +kernel
theorem d_MD_report_53 : decode b_MD_report 53 = .ok (.istore 4, 2) := by decide +kernel
theorem d_MD_report_55 : decode b_MD_report 55 = .ok (.aload_n 0, 1) := by decide +kernel
theorem d_MD_report_56 : decode b_MD_report 56 = .ok (.getfield 36, 3) := by decide +kernel
theorem d_MD_report_59 : decode b_MD_report 59 = .ok (.iload 4, 2) := by decide +kernel
theorem d_MD_report_61 : decode b_MD_report 61 = .ok (.iaload, 1) := by decide +kernel
theorem d_MD_report_62 : decode b_MD_report 62 = .ok (.ifCond .ne 6, 3) := by decide +kernel
theorem d_MD_report_65 : decode b_MD_report 65 = .ok (.goto 67, 3) := by decide +kernel
theorem d_MD_report_68 : decode b_MD_report 68 = .ok (.aload_n 0, 1) := by decide +kernel
theorem d_MD_report_69 : decode b_MD_report 69 = .ok (.iload_n 3, 1) := by decide +kernel
theorem d_MD_report_70 : decode b_MD_report 70 = .ok (.invokevirtual 101, 3) := by decide +kernel
theorem d_MD_report_73 : decode b_MD_report 73 = .ok (.ifCond .eq 19, 3) := by decide +kernel
theorem d_MD_report_76 : decode b_MD_report 76 = .ok (.aload_n 0, 1) := by decide +kernel
theorem d_MD_report_77 : decode b_MD_report 77 = .ok (.getfield 23, 3) := by decide +kernel
theorem d_MD_report_80 : decode b_MD_report 80 = .ok (.iload_n 3, 1) := by decide +kernel
theorem d_MD_report_81 : decode b_MD_report 81 = .ok (.iaload, 1) := by decide +kernel
theorem d_MD_report_82 : decode b_MD_report 82 = .ok (.aload_n 0, 1) := by decide +kernel
theorem d_MD_report_83 : decode b_MD_report 83 = .ok (.getfield 36, 3) := by decide +kernel
theorem d_MD_report_86 : decode b_MD_report 86 = .ok (.iload 4, 2) := by decide +kernel
theorem d_MD_report_88 : decode b_MD_report 88 = .ok (.iaload, 1) := by decide +kernel
theorem d_MD_report_89 : decode b_MD_report 89 = .ok (.if_icmp .le 31, 3) := by decide +kernel
theorem d_MD_report_92 : decode b_MD_report 92 = .ok (.aload_n 0, 1) := by decide +kernel
theorem d_MD_report_93 : decode b_MD_report 93 = .ok (.getfield 36, 3) := by decide +kernel
theorem d_MD_report_96 : decode b_MD_report 96 = .ok (.iload 4, 2) := by decide +kernel
theorem d_MD_report_98 : decode b_MD_report 98 = .ok (.iconst 0, 1) := by decide +kernel
theorem d_MD_report_99 : decode b_MD_report 99 = .ok (.iastore, 1) := by decide +kernel
theorem d_MD_report_100 : decode b_MD_report 100 = .ok (.aload_n 0, 1) := by decide +kernel
theorem d_MD_report_101 : decode b_MD_report 101 = .ok (.getfield 26, 3) := by decide +kernel
theorem d_MD_report_104 : decode b_MD_report 104 = .ok (.iload_n 3, 1) := by decide +kernel
theorem d_MD_report_105 : decode b_MD_report 105 = .ok (.dup2, 1) := by decide +kernel
theorem d_MD_report_106 : decode b_MD_report 106 = .ok (.iaload, 1) := by decide +kernel
theorem d_MD_report_107 : decode b_MD_report 107 = .ok (.iconst 1, 1) := by decide +kernel
theorem d_MD_report_108 : decode b_MD_report 108 = .ok (.iload_n 1, 1) := by decide +kernel
theorem d_MD_report_109 : decode b_MD_report 109 = .ok (.ishl, 1) := by decide +kernel
theorem d_MD_report_110 : decode b_MD_report 110 = .ok (.iconst (-1), 1) := by decide +kernel
theorem d_MD_report_111 : decode b_MD_report 111 = .ok (.ixor, 1) := by decide +kernel
theorem d_MD_report_112 : decode b_MD_report 112 = .ok (.iand, 1) := by decide +kernel
theorem d_MD_report_113 : decode b_MD_report 113 = .ok (.iastore, 1) := by decide +kernel
theorem d_MD_report_114 : decode b_MD_report 114 = .ok (.iinc 2 1, 3) := by decide +kernel
theorem d_MD_report_117 : decode b_MD_report 117 = .ok (.goto 15, 3) := by decide +kernel
theorem d_MD_report_120 : decode b_MD_report 120 = .ok (.aload_n 0, 1) := by decide +kernel
theorem d_MD_report_121 : decode b_MD_report 121 = .ok (.getfield 26, 3) := by decide +kernel
theorem d_MD_report_124 : decode b_MD_report 124 = .ok (.iload_n 3, 1) := by decide +kernel
theorem d_MD_report_125 : decode b_MD_report 125 = .ok (.dup2, 1) := by decide +kernel
theorem d_MD_report_126 : decode b_MD_report 126 = .ok (.iaload, 1) := by decide +kernel
theorem d_MD_report_127 : decode b_MD_report 127 = .ok (.iconst 1, 1) := by decide +kernel
theorem d_MD_report_128 : decode b_MD_report 128 = .ok (.iload_n 1, 1) := by decide +kernel
theorem d_MD_report_129 : decode b_MD_report 129 = .ok (.ishl, 1) := by decide +kernel
theorem d_MD_report_130 : decode b_MD_report 130 = .ok (.ior, 1) := by decide +kernel
theorem d_MD_report_131 : decode b_MD_report 131 = .ok (.iastore, 1) := by decide +kernel
theorem d_MD_report_132 : decode b_MD_report 132 = .ok (.iinc 3 1, 3) := by decide +kernel
theorem d_MD_report_135 : decode b_MD_report 135 = .ok (.goto (-96), 3) := by decide +kernel
theorem d_MD_report_138 : decode b_MD_report 138 = .ok (.iload_n 2, 1) := by decide +kernel
theorem d_MD_report_139 : decode b_MD_report 139 = .ok (.ireturn, 1) := by decide +kernel
theorem d_MD_repair_0 : decode b_MD_repair 0 = .ok (.aload_n 0, 1) := by decide +kernel
theorem d_MD_repair_1 : decode b_MD_repair 1 = .ok (.iconst 0, 1) := by decide +kernel
theorem d_MD_repair_2 : decode b_MD_repair 2 = .ok (.putfield 59, 3) := by decide +kernel
theorem d_MD_repair_5 : decode b_MD_repair 5 = .ok (.iconst (-1), 1) := by decide +kernel
theorem d_MD_repair_6 : decode b_MD_repair 6 = .ok (.istore_n 1, 1) := by decide +kernel
theorem d_MD_repair_7 : decode b_MD_repair 7 = .ok (.iconst 0, 1) := by decide +kernel
theorem d_MD_repair_8 : decode b_MD_repair 8 = .ok (.istore_n 2, 1) := by decide +kernel
theorem d_MD_repair_9 : decode b_MD_repair 9 = .ok (.iload_n 2, 1) := by decide +kernel
theorem d_MD_repair_10 : decode b_MD_repair 10 = .ok (.aload_n 0, 1) := by decide +kernel
theorem d_MD_repair_11 : decode b_MD_repair 11 = .ok (.getfield 78, 3) := by decide +kernel
theorem d_MD_repair_14 : decode b_MD_repair 14 = .ok (.if_icmp .ge 68, 3) := by decide +kernel
theorem d_MD_repair_17 : decode b_MD_repair 17 = .ok (.aload_n 0, 1) := by decide +kernel
theorem d_MD_repair_18 : decode b_MD_repair 18 = .ok (.aload_n 0, 1) := by decide +kernel
theorem d_MD_repair_19 : decode b_MD_repair 19 = .ok (.iload_n 2, 1) := by decide +kernel
theorem d_MD_repair_20 : decode b_MD_repair 20 = .ok (.invokevirtual 98, 3) := by decide +kernel
theorem d_MD_repair_23 : decode b_MD_repair 23 = .ok (.invokevirtual 118, 3) := by decide +kernel
theorem d_MD_repair_26 : decode b_MD_repair 26 = .ok (.istore_n 3, 1) := by decide +kernel
theorem d_MD_repair_27 : decode b_MD_repair 27 = .ok (.iload_n 3, 1) := by decide +kernel
theorem d_MD_repair_28 : decode b_MD_repair 28 = .ok (.iconst 1, 1) := by decide +kernel
theorem d_MD_repair_29 : decode b_MD_repair 29 = .ok (.if_icmp .lt 47, 3) := by decide +kernel
theorem d_MD_repair_32 : decode b_MD_repair 32 = .ok (.iload_n 3, 1) := by decide +kernel
theorem d_MD_repair_33 : decode b_MD_repair 33 = .ok (.iconst 2, 1) := by decide +kernel
theorem d_MD_repair_34 : decode b_MD_repair 34 = .ok (.if_icmp .gt 42, 3) := by decide +kernel
theorem d_MD_repair_37 : decode b_MD_repair 37 = .ok (.aload_n 0, 1) := by decide +kernel
theorem d_MD_repair_38 : decode b_MD_repair 38 = .ok (.iload_n 2, 1) := by decide +kernel
theorem d_MD_repair_39 : decode b_MD_repair 39 = .ok (.invokevirtual 101, 3) := by decide +kernel
theorem d_MD_repair_42 : decode b_MD_repair 42 = .ok (.ifCond .eq 34, 3) := by decide +kernel
theorem d_MD_repair_45 : decode b_MD_repair 45 = .ok (.aload_n 0, 1) := by decide +kernel
theorem d_MD_repair_46 : decode b_MD_repair 46 = .ok (.iload_n 2, 1) := by decide +kernel
theorem d_MD_repair_47 : decode b_MD_repair 47 = .ok (.iconst 0, 1) := by decide +kernel
theorem d_MD_repair_48 : decode b_MD_repair 48 = .ok (.invokevirtual 81, 3) := by decide +kernel
theorem d_MD_repair_51 : decode b_MD_repair 51 = .ok (.ifCond .ge 6, 3) := by decide +kernel
theorem d_MD_repair_54 : decode b_MD_repair 54 = .ok (.goto 22, 3) := by decide +kernel
theorem d_MD_repair_57 : decode b_MD_repair 57 = .ok (.iload_n 1, 1) := by decide +kernel
theorem d_MD_repair_58 : decode b_MD_repair 58 = .ok (.ifCond .lt 16, 3) := by decide +kernel
theorem d_MD_repair_61 : decode b_MD_repair 61 = .ok (.iload_n 3, 1) := by decide +kernel
theorem d_MD_repair_62 : decode b_MD_repair 62 = .ok (.aload_n 0, 1) := by decide +kernel
theorem d_MD_repair_63 : decode b_MD_repair 63 = .ok (.aload_n 0, 1) := by decide +kernel
theorem d_MD_repair_64 : decode b_MD_repair 64 = .ok (.iload_n 1, 1) := by decide +kernel
theorem d_MD_repair_65 : decode b_MD_repair 65 = .ok (.invokevirtual 98, 3) := by decide +kernel
theorem d_MD_repair_68 : decode b_MD_repair 68 = .ok (.invokevirtual 118, 3) := by decide +kernel
theorem d_MD_repair_71 : decode b_MD_repair 71 = .ok (.if_icmp .ge 5, 3) := by decide +kernel
theorem d_MD_repair_74 : decode b_MD_repair 74 = .ok (.iload_n 2, 1) := by decide +kernel
theorem d_MD_repair_75 : decode b_MD_repair 75 = .ok (.istore_n 1, 1) := by decide +kernel
theorem d_MD_repair_76 : decode b_MD_repair 76 = .ok (.iinc 2 1, 3) := by decide +kernel
theorem d_MD_repair_79 : decode b_MD_repair 79 = .ok (.goto (-70), 3) := by decide +kernel
theorem d_MD_repair_82 : decode b_MD_repair 82 = .ok (.iload_n 1, 1) := by decide +kernel
theorem d_MD_repair_83 : decode b_MD_repair 83 = .ok (.ifCond .ge 9, 3) := by decide +kernel
theorem d_MD_repair_86 : decode b_MD_repair 86 = .ok (.aload_n 0, 1) := by decide +kernel
theorem d_MD_repair_87 : decode b_MD_repair 87 = .ok (.iconst 1, 1) := by decide +kernel
theorem d_MD_repair_88 : decode b_MD_repair 88 = .ok (.invokevirtual 67, 3) := by decide +kernel
theorem d_MD_repair_91 : decode b_MD_repair 91 = .ok (.ireturn, 1) := by decide +kernel
theorem d_MD_repair_92 : decode b_MD_repair 92 = .ok (.aload_n 0, 1) := by decide +kernel
theorem d_MD_repair_93 : decode b_MD_repair 93 = .ok (.iload_n 1, 1) := by decide +kernel
theorem d_MD_repair_94 : decode b_MD_repair 94 = .ok (.iconst 0, 1) := by decide +kernel
theorem d_MD_repair_95 : decode b_MD_repair 95 = .ok (.invokevirtual 81, 3) := by decide +kernel
theorem d_MD_repair_98 : decode b_MD_repair 98 = .ok (.istore_n 2, 1) := by decide +kernel
theorem d_MD_repair_99 : decode b_MD_repair 99 = .ok (.bipush 30, 2) := by decide +kernel
theorem d_MD_repair_101 : decode b_MD_repair 101 = .ok (.aload_n 0, 1) := by decide +kernel
theorem d_MD_repair_102 : decode b_MD_repair 102 = .ok (.aload_n 0, 1) := by decide +kernel
theorem d_MD_repair_103 : decode b_MD_repair 103 = .ok (.iload_n 1, 1) := by decide +kernel
theorem d_MD_repair_104 : decode b_MD_repair 104 = .ok (.invokevirtual 98, 3) := by decide +kernel
theorem d_MD_repair_107 : decode b_MD_repair 107 = .ok (.invokevirtual 112, 3) := by decide +kernel
theorem d_MD_repair_110 : decode b_MD_repair 110 = .ok (.imul, 1) := by decide +kernel
theorem d_MD_repair_111 : decode b_MD_repair 111 = .ok (.iload_n 1, 1) := by decide +kernel
theorem d_MD_repair_112 : decode b_MD_repair 112 = .ok (.iadd, 1) := by decide +kernel
theorem d_MD_repair_113 : decode b_MD_repair 113 = .ok (.istore_n 3, 1) := by decide +kernel
theorem d_MD_repair_114 : decode b_MD_repair 114 = .ok (.aload_n 0, 1) := by decide +kernel
theorem d_MD_repair_115 : decode b_MD_repair 115 = .ok (.bipush 30, 2) := by decide +kernel
theorem d_MD_repair_117 : decode b_MD_repair 117 = .ok (.iload_n 2, 1) := by decide +kernel
theorem d_MD_repair_118 : decode b_MD_repair 118 = .ok (.imul, 1) := by decide +kernel
theorem d_MD_repair_119 : decode b_MD_repair 119 = .ok (.iload_n 1, 1) := by decide +kernel
theorem d_MD_repair_120 : decode b_MD_repair 120 = .ok (.iadd, 1) := by decide +kernel
theorem d_MD_repair_121 : decode b_MD_repair 121 = .ok (.iload_n 3, 1) := by decide +kernel
theorem d_MD_repair_122 : decode b_MD_repair 122 = .ok (.aload_n 0, 1) := by decide +kernel
theorem d_MD_repair_123 : decode b_MD_repair 123 = .ok (.getfield 36, 3) := by decide +kernel
theorem d_MD_repair_126 : decode b_MD_repair 126 = .ok (.iload_n 3, 1) := by decide +kernel
theorem d_MD_repair_127 : decode b_MD_repair 127 = .ok (.iaload, 1) := by decide +kernel
theorem d_MD_repair_128 : decode b_MD_repair 128 = .ok (.invokevirtual 85, 3) := by decide +kernel
theorem d_MD_repair_131 : decode b_MD_repair 131 = .ok (.aload_n 0, 1) := by decide +kernel
theorem d_MD_repair_132 : decode b_MD_repair 132 = .ok (.getfield 26, 3) := by decide +kernel
theorem d_MD_repair_135 : decode b_MD_repair 135 = .ok (.iload_n 1, 1) := by decide +kernel
theorem d_MD_repair_136 : decode b_MD_repair 136 = .ok (.dup2, 1) := by decide +kernel
theorem d_MD_repair_137 : decode b_MD_repair 137 = .ok (.iaload, 1) := by decide +kernel
theorem d_MD_repair_138 : decode b_MD_repair 138 = .ok (.iconst 1, 1) := by decide +kernel
theorem d_MD_repair_139 : decode b_MD_repair 139 = .ok (.iload_n 2, 1) := by decide +kernel
theorem d_MD_repair_140 : decode b_MD_repair 140 = .ok (.ishl, 1) := by decide +kernel
theorem d_MD_repair_141 : decode b_MD_repair 141 = .ok (.ior, 1) := by decide +kernel
theorem d_MD_repair_142 : decode b_MD_repair 142 = .ok (.iastore, 1) := by decide +kernel
theorem d_MD_repair_143 : decode b_MD_repair 143 = .ok (.bipush 10, 2) := by decide +kernel
theorem d_MD_repair_145 : decode b_MD_repair 145 = .ok (.iload_n 1, 1) := by decide +kernel
theorem d_MD_repair_146 : decode b_MD_repair 146 = .ok (.imul, 1) := by decide +kernel
theorem d_MD_repair_147 : decode b_MD_repair 147 = .ok (.iload_n 2, 1) := by decide +kernel
theorem d_MD_repair_148 : decode b_MD_repair 148 = .ok (.iadd, 1) := by decide +kernel
theorem d_MD_repair_149 : decode b_MD_repair 149 = .ok (.ireturn, 1) := by decide +kernel
theorem d_MD_ones_0 : decode b_MD_ones 0 = .ok (.iconst 0, 1) := by decide +kernel
theorem d_MD_ones_1 : decode b_MD_ones 1 = .ok (.istore_n 2, 1) := by decide +kernel
theorem d_MD_ones_2 : decode b_MD_ones 2 = .ok (.iconst 0, 1) := by decide +kernel
theorem d_MD_ones_3 : decode b_MD_ones 3 = .ok (.istore_n 3, 1) := by decide +kernel
theorem d_MD_ones_4 : decode b_MD_ones 4 = .ok (.iload_n 3, 1) := by decide +kernel
theorem d_MD_ones_5 : decode b_MD_ones 5 = .ok (.iconst 5, 1) := by decide +kernel
theorem d_MD_ones_6 : decode b_MD_ones 6 = .ok (.if_icmp .ge 17, 3) := by decide +kernel
theorem d_MD_ones_9 : decode b_MD_ones 9 = .ok (.iload_n 2, 1) := by decide +kernel
theorem d_MD_ones_10 : decode b_MD_ones 10 = .ok (.iload_n 1, 1) := by decide +kernel
theorem d_MD_ones_11 : decode b_MD_ones 11 = .ok (.iload_n 3, 1) := by decide +kernel
theorem d_MD_ones_12 : decode b_MD_ones 12 = .ok (.ishr, 1) := by decide +kernel
theorem d_MD_ones_13 : decode b_MD_ones 13 = .ok (.iconst 1, 1) := by decide +kernel
theorem d_MD_ones_14 : decode b_MD_ones 14 = .ok (.iand, 1) := by decide +kernel
theorem d_MD_ones_15 : decode b_MD_ones 15 = .ok (.iadd, 1) := by decide +kernel
theorem d_MD_ones_16 : decode b_MD_ones 16 = .ok (.istore_n 2, 1) := by decide +kernel
theorem d_MD_ones_17 : decode b_MD_ones 17 = .ok (.iinc 3 1, 3) := by decide +kernel
theorem d_MD_ones_20 : decode b_MD_ones 20 = .ok (.goto (-16), 3) := by decide +kernel
theorem d_MD_ones_23 : decode b_MD_ones 23 = .ok (.iload_n 2, 1) := by decide +kernel
theorem d_MD_ones_24 : decode b_MD_ones 24 = .ok (.ireturn, 1) := by decide +kernel
theorem d_MD_sweep_0 : decode b_MD_sweep 0 = .ok (.aload_n 0, 1) := by decide +kernel
theorem d_MD_sweep_1 : decode b_MD_sweep 1 = .ok (.iconst 0, 1) := by decide +kernel
theorem d_MD_sweep_2 : decode b_MD_sweep 2 = .ok (.putfield 59, 3) := by decide +kernel
theorem d_MD_sweep_5 : decode b_MD_sweep 5 = .ok (.iconst 0, 1) := by decide +kernel
theorem d_MD_sweep_6 : decode b_MD_sweep 6 = .ok (.istore_n 1, 1) := by decide +kernel
theorem d_MD_sweep_7 : decode b_MD_sweep 7 = .ok (.iconst 0, 1) := by decide +kernel
theorem d_MD_sweep_8 : decode b_MD_sweep 8 = .ok (.istore_n 2, 1) := by decide +kernel
theorem d_MD_sweep_9 : decode b_MD_sweep 9 = .ok (.iload_n 2, 1) := by decide +kernel
theorem d_MD_sweep_10 : decode b_MD_sweep 10 = .ok (.bipush 8, 2) := by decide +kernel
theorem d_MD_sweep_12 : decode b_MD_sweep 12 = .ok (.if_icmp .ge 54, 3) := by decide +kernel
theorem d_MD_sweep_15 : decode b_MD_sweep 15 = .ok (.aload_n 0, 1) := by decide +kernel
theorem d_MD_sweep_16 : decode b_MD_sweep 16 = .ok (.getfield 7, 3) := by decide +kernel
theorem d_MD_sweep_19 : decode b_MD_sweep 19 = .ok (.iload_n 2, 1) := by decide +kernel
theorem d_MD_sweep_20 : decode b_MD_sweep 20 = .ok (.iaload, 1) := by decide +kernel
theorem d_MD_sweep_21 : decode b_MD_sweep 21 = .ok (.iconst 2, 1) := by decide +kernel
theorem d_MD_sweep_22 : decode b_MD_sweep 22 = .ok (.if_icmp .ne 38, 3) := by decide +kernel
theorem d_MD_sweep_25 : decode b_MD_sweep 25 = .ok (.aload_n 0, 1) := by decide +kernel
theorem d_MD_sweep_26 : decode b_MD_sweep 26 = .ok (.getfield 71, 3) := by decide +kernel
theorem d_MD_sweep_29 : decode b_MD_sweep 29 = .ok (.aload_n 0, 1) := by decide +kernel
theorem d_MD_sweep_30 : decode b_MD_sweep 30 = .ok (.getfield 13, 3) := by decide +kernel
theorem d_MD_sweep_33 : decode b_MD_sweep 33 = .ok (.iload_n 2, 1) := by decide +kernel
theorem d_MD_sweep_34 : decode b_MD_sweep 34 = .ok (.daload, 1) := by decide +kernel
theorem d_MD_sweep_35 : decode b_MD_sweep 35 = .ok (.dsub, 1) := by decide +kernel
theorem d_MD_sweep_36 : decode b_MD_sweep 36 = .ok (.ldc2_w 121, 3) := by decide +kernel
theorem d_MD_sweep_39 : decode b_MD_sweep 39 = .ok (.dcmp .l, 1) := by decide +kernel
theorem d_MD_sweep_40 : decode b_MD_sweep 40 = .ok (.ifCond .lt 20, 3) := by decide +kernel
theorem d_MD_sweep_43 : decode b_MD_sweep 43 = .ok (.aload_n 0, 1) := by decide +kernel
theorem d_MD_sweep_44 : decode b_MD_sweep 44 = .ok (.getfield 7, 3) := by decide +kernel
theorem d_MD_sweep_47 : decode b_MD_sweep 47 = .ok (.iload_n 2, 1) := by decide +kernel
theorem d_MD_sweep_48 : decode b_MD_sweep 48 = .ok (.iconst 0, 1) := by decide +kernel
theorem d_MD_sweep_49 : decode b_MD_sweep 49 = .ok (.iastore, 1) := by decide +kernel
theorem d_MD_sweep_50 : decode b_MD_sweep 50 = .ok (.aload_n 0, 1) := by decide +kernel
theorem d_MD_sweep_51 : decode b_MD_sweep 51 = .ok (.getfield 20, 3) := by decide +kernel
theorem d_MD_sweep_54 : decode b_MD_sweep 54 = .ok (.iload_n 2, 1) := by decide +kernel
theorem d_MD_sweep_55 : decode b_MD_sweep 55 = .ok (.iconst 0, 1) := by decide +kernel
theorem d_MD_sweep_56 : decode b_MD_sweep 56 = .ok (.iastore, 1) := by decide +kernel
theorem d_MD_sweep_57 : decode b_MD_sweep 57 = .ok (.iinc 1 1, 3) := by decide +kernel
theorem d_MD_sweep_60 : decode b_MD_sweep 60 = .ok (.iinc 2 1, 3) := by decide +kernel
theorem d_MD_sweep_63 : decode b_MD_sweep 63 = .ok (.goto (-54), 3) := by decide +kernel
theorem d_MD_sweep_66 : decode b_MD_sweep 66 = .ok (.iload_n 1, 1) := by decide +kernel
theorem d_MD_sweep_67 : decode b_MD_sweep 67 = .ok (.ireturn, 1) := by decide +kernel
theorem d_MD_tick_0 : decode b_MD_tick 0 = .ok (.aload_n 0, 1) := by decide +kernel
theorem d_MD_tick_1 : decode b_MD_tick 1 = .ok (.iconst 0, 1) := by decide +kernel
theorem d_MD_tick_2 : decode b_MD_tick 2 = .ok (.putfield 59, 3) := by decide +kernel
theorem d_MD_tick_5 : decode b_MD_tick 5 = .ok (.dload_n 1, 1) := by decide +kernel
theorem d_MD_tick_6 : decode b_MD_tick 6 = .ok (.dconst 0, 1) := by decide +kernel
theorem d_MD_tick_7 : decode b_MD_tick 7 = .ok (.dcmp .l, 1) := by decide +kernel
theorem d_MD_tick_8 : decode b_MD_tick 8 = .ok (.ifCond .lt 11, 3) := by decide +kernel
theorem d_MD_tick_11 : decode b_MD_tick 11 = .ok (.dload_n 1, 1) := by decide +kernel
theorem d_MD_tick_12 : decode b_MD_tick 12 = .ok (.ldc2_w 123, 3) := by decide +kernel
theorem d_MD_tick_15 : decode b_MD_tick 15 = .ok (.dcmp .g, 1) := by decide +kernel
theorem d_MD_tick_16 : decode b_MD_tick 16 = .ok (.ifCond .le 10, 3) := by decide +kernel
theorem d_MD_tick_19 : decode b_MD_tick 19 = .ok (.aload_n 0, 1) := by decide +kernel
theorem d_MD_tick_20 : decode b_MD_tick 20 = .ok (.iconst 1, 1) := by decide +kernel
theorem d_MD_tick_21 : decode b_MD_tick 21 = .ok (.invokevirtual 67, 3) := by decide +kernel
theorem d_MD_tick_24 : decode b_MD_tick 24 = .ok (.i2d, 1) := by decide +kernel
theorem d_MD_tick_25 : decode b_MD_tick 25 = .ok (.dreturn, 1) := by decide +kernel
theorem d_MD_tick_26 : decode b_MD_tick 26 = .ok (.aload_n 0, 1) := by decide +kernel
theorem d_MD_tick_27 : decode b_MD_tick 27 = .ok (.dup, 1) := by decide +kernel
theorem d_MD_tick_28 : decode b_MD_tick 28 = .ok (.getfield 71, 3) := by decide +kernel
theorem d_MD_tick_31 : decode b_MD_tick 31 = .ok (.dload_n 1, 1) := by decide +kernel
theorem d_MD_tick_32 : decode b_MD_tick 32 = .ok (.dadd, 1) := by decide +kernel
theorem d_MD_tick_33 : decode b_MD_tick 33 = .ok (.putfield 71, 3) := by decide +kernel
theorem d_MD_tick_36 : decode b_MD_tick 36 = .ok (.aload_n 0, 1) := by decide +kernel
theorem d_MD_tick_37 : decode b_MD_tick 37 = .ok (.getfield 71, 3) := by decide +kernel
theorem d_MD_tick_40 : decode b_MD_tick 40 = .ok (.dreturn, 1) := by decide +kernel
theorem d_MD_load_0 : decode b_MD_load 0 = .ok (.aload_n 0, 1) := by decide +kernel
theorem d_MD_load_1 : decode b_MD_load 1 = .ok (.iconst 0, 1) := by decide +kernel
theorem d_MD_load_2 : decode b_MD_load 2 = .ok (.putfield 59, 3) := by decide +kernel
theorem d_MD_load_5 : decode b_MD_load 5 = .ok (.iconst 0, 1) := by decide +kernel
theorem d_MD_load_6 : decode b_MD_load 6 = .ok (.istore_n 1, 1) := by decide +kernel
theorem d_MD_load_7 : decode b_MD_load 7 = .ok (.iconst 0, 1) := by decide +kernel
theorem d_MD_load_8 : decode b_MD_load 8 = .ok (.istore_n 2, 1) := by decide +kernel
theorem d_MD_load_9 : decode b_MD_load 9 = .ok (.iconst 0, 1) := by decide +kernel
theorem d_MD_load_10 : decode b_MD_load 10 = .ok (.istore_n 3, 1) := by decide +kernel
theorem d_MD_load_11 : decode b_MD_load 11 = .ok (.iload_n 3, 1) := by decide +kernel
theorem d_MD_load_12 : decode b_MD_load 12 = .ok (.iconst 5, 1) := by decide +kernel
theorem d_MD_load_13 : decode b_MD_load 13 = .ok (.if_icmp .ge 47, 3) := by decide +kernel
theorem d_MD_load_16 : decode b_MD_load 16 = .ok (.iload_n 1, 1) := by decide +kernel
theorem d_MD_load_17 : decode b_MD_load 17 = .ok (.aload_n 0, 1) := by decide +kernel
theorem d_MD_load_18 : decode b_MD_load 18 = .ok (.getfield 32, 3) := by decide +kernel
theorem d_MD_load_21 : decode b_MD_load 21 = .ok (.iload_n 3, 1) := by decide +kernel
theorem d_MD_load_22 : decode b_MD_load 22 = .ok (.baload, 1) := by decide +kernel
theorem d_MD_load_23 : decode b_MD_load 23 = .ok (.ifCond .eq 7, 3) := by decide +kernel
theorem d_MD_load_26 : decode b_MD_load 26 = .ok (.iconst 0, 1) := by decide +kernel
theorem d_MD_load_27 : decode b_MD_load 27 = .ok (.goto 4, 3) := by decide +kernel
theorem d_MD_load_30 : decode b_MD_load 30 = .ok (.iconst 1, 1) := by decide +kernel
theorem d_MD_load_31 : decode b_MD_load 31 = .ok (.iadd, 1) := by decide +kernel
theorem d_MD_load_32 : decode b_MD_load 32 = .ok (.istore_n 1, 1) := by decide +kernel
theorem d_MD_load_33 : decode b_MD_load 33 = .ok (.iload_n 2, 1) := by decide +kernel
theorem d_MD_load_34 : decode b_MD_load 34 = .ok (.aload_n 0, 1) := by decide +kernel
theorem d_MD_load_35 : decode b_MD_load 35 = .ok (.getfield 32, 3) := by decide +kernel
theorem d_MD_load_38 : decode b_MD_load 38 = .ok (.iload_n 3, 1) := by decide +kernel
theorem d_MD_load_39 : decode b_MD_load 39 = .ok (.baload, 1) := by decide +kernel
theorem d_MD_load_40 : decode b_MD_load 40 = .ok (.ifCond .eq 7, 3) := by decide +kernel
theorem d_MD_load_43 : decode b_MD_load 43 = .ok (.iconst 0, 1) := by decide +kernel
theorem d_MD_load_44 : decode b_MD_load 44 = .ok (.goto 8, 3) := by decide +kernel
theorem d_MD_load_47 : decode b_MD_load 47 = .ok (.aload_n 0, 1) := by decide +kernel
theorem d_MD_load_48 : decode b_MD_load 48 = .ok (.iload_n 3, 1) := by decide +kernel
theorem d_MD_load_49 : decode b_MD_load 49 = .ok (.invokevirtual 75, 3) := by decide +kernel
theorem d_MD_load_52 : decode b_MD_load 52 = .ok (.iadd, 1) := by decide +kernel
theorem d_MD_load_53 : decode b_MD_load 53 = .ok (.istore_n 2, 1) := by decide +kernel
theorem d_MD_load_54 : decode b_MD_load 54 = .ok (.iinc 3 1, 3) := by decide +kernel
theorem d_MD_load_57 : decode b_MD_load 57 = .ok (.goto (-46), 3) := by decide +kernel
theorem d_MD_load_60 : decode b_MD_load 60 = .ok (.iload_n 1, 1) := by decide +kernel
theorem d_MD_load_61 : decode b_MD_load 61 = .ok (.ifCond .ne 10, 3) := by decide +kernel
theorem d_MD_load_64 : decode b_MD_load 64 = .ok (.aload_n 0, 1) := by decide +kernel
theorem d_MD_load_65 : decode b_MD_load 65 = .ok (.iconst 1, 1) := by decide +kernel
theorem d_MD_load_66 : decode b_MD_load 66 = .ok (.invokevirtual 67, 3) := by decide +kernel
theorem d_MD_load_69 : decode b_MD_load 69 = .ok (.i2d, 1) := by decide +kernel
theorem d_MD_load_70 : decode b_MD_load 70 = .ok (.dreturn, 1) := by decide +kernel
theorem d_MD_load_71 : decode b_MD_load 71 = .ok (.iload_n 2, 1) := by decide +kernel
theorem d_MD_load_72 : decode b_MD_load 72 = .ok (.i2d, 1) := by decide +kernel
theorem d_MD_load_73 : decode b_MD_load 73 = .ok (.iload_n 1, 1) := by decide +kernel
theorem d_MD_load_74 : decode b_MD_load 74 = .ok (.i2d, 1) := by decide +kernel
theorem d_MD_load_75 : decode b_MD_load 75 = .ok (.ddiv, 1) := by decide +kernel
theorem d_MD_load_76 : decode b_MD_load 76 = .ok (.dreturn, 1) := by decide +kernel
theorem d_MD_look_0 : decode b_MD_look 0 = .ok (.aload_n 0, 1) := by decide +kernel
theorem d_MD_look_1 : decode b_MD_look 1 = .ok (.iconst 0, 1) := by decide +kernel
theorem d_MD_look_2 : decode b_MD_look 2 = .ok (.putfield 59, 3) := by decide +kernel
theorem d_MD_look_5 : decode b_MD_look 5 = .ok (.aload_n 0, 1) := by decide +kernel
theorem d_MD_look_6 : decode b_MD_look 6 = .ok (.iload_n 1, 1) := by decide +kernel
theorem d_MD_look_7 : decode b_MD_look 7 = .ok (.iconst 5, 1) := by decide +kernel
theorem d_MD_look_8 : decode b_MD_look 8 = .ok (.invokevirtual 63, 3) := by decide +kernel
theorem d_MD_look_11 : decode b_MD_look 11 = .ok (.ifCond .ne 23, 3) := by decide +kernel
theorem d_MD_look_14 : decode b_MD_look 14 = .ok (.aload_n 0, 1) := by decide +kernel
theorem d_MD_look_15 : decode b_MD_look 15 = .ok (.iload_n 2, 1) := by decide +kernel
theorem d_MD_look_16 : decode b_MD_look 16 = .ok (.bipush 30, 2) := by decide +kernel
theorem d_MD_look_18 : decode b_MD_look 18 = .ok (.invokevirtual 63, 3) := by decide +kernel
theorem d_MD_look_21 : decode b_MD_look 21 = .ok (.ifCond .ne 13, 3) := by decide +kernel
theorem d_MD_look_24 : decode b_MD_look 24 = .ok (.aload_n 0, 1) := by decide +kernel
theorem d_MD_look_25 : decode b_MD_look 25 = .ok (.iload_n 3, 1) := by decide +kernel
theorem d_MD_look_26 : decode b_MD_look 26 = .ok (.bipush 6, 2) := by decide +kernel
theorem d_MD_look_28 : decode b_MD_look 28 = .ok (.invokevirtual 63, 3) := by decide +kernel
theorem d_MD_look_31 : decode b_MD_look 31 = .ok (.ifCond .eq 9, 3) := by decide +kernel
theorem d_MD_look_34 : decode b_MD_look 34 = .ok (.aload_n 0, 1) := by decide +kernel
theorem d_MD_look_35 : decode b_MD_look 35 = .ok (.iconst 1, 1) := by decide +kernel
theorem d_MD_look_36 : decode b_MD_look 36 = .ok (.invokevirtual 67, 3) := by decide +kernel
theorem d_MD_look_39 : decode b_MD_look 39 = .ok (.ireturn, 1) := by decide +kernel
theorem d_MD_look_40 : decode b_MD_look 40 = .ok (.bipush 30, 2) := by decide +kernel
theorem d_MD_look_42 : decode b_MD_look 42 = .ok (.iload_n 1, 1) := by decide +kernel
theorem d_MD_look_43 : decode b_MD_look 43 = .ok (.imul, 1) := by decide +kernel
theorem d_MD_look_44 : decode b_MD_look 44 = .ok (.iload_n 2, 1) := by decide +kernel
theorem d_MD_look_45 : decode b_MD_look 45 = .ok (.iadd, 1) := by decide +kernel
theorem d_MD_look_46 : decode b_MD_look 46 = .ok (.istore 4, 2) := by decide +kernel
theorem d_MD_look_48 : decode b_MD_look 48 = .ok (.aload_n 0, 1) := by decide +kernel
theorem d_MD_look_49 : decode b_MD_look 49 = .ok (.getfield 36, 3) := by decide +kernel
theorem d_MD_look_52 : decode b_MD_look 52 = .ok (.iload 4, 2) := by decide +kernel
theorem d_MD_look_54 : decode b_MD_look 54 = .ok (.iaload, 1) := by decide +kernel
theorem d_MD_look_55 : decode b_MD_look 55 = .ok (.ifCond .ne 9, 3) := by decide +kernel
theorem d_MD_look_58 : decode b_MD_look 58 = .ok (.aload_n 0, 1) := by decide +kernel
theorem d_MD_look_59 : decode b_MD_look 59 = .ok (.iconst 2, 1) := by decide +kernel
theorem d_MD_look_60 : decode b_MD_look 60 = .ok (.invokevirtual 67, 3) := by decide +kernel
theorem d_MD_look_63 : decode b_MD_look 63 = .ok (.ireturn, 1) := by decide +kernel
theorem d_MD_look_64 : decode b_MD_look 64 = .ok (.iload_n 3, 1) := by decide +kernel
theorem d_MD_look_65 : decode b_MD_look 65 = .ok (.ifCond .ne 13, 3) := by decide +kernel
theorem d_MD_look_68 : decode b_MD_look 68 = .ok (.aload_n 0, 1) := by decide +kernel
theorem d_MD_look_69 : decode b_MD_look 69 = .ok (.getfield 36, 3) := by decide +kernel
theorem d_MD_look_72 : decode b_MD_look 72 = .ok (.iload 4, 2) := by decide +kernel
theorem d_MD_look_74 : decode b_MD_look 74 = .ok (.iaload, 1) := by decide +kernel
theorem d_MD_look_75 : decode b_MD_look 75 = .ok (.goto 31, 3) := by decide +kernel
theorem d_MD_look_78 : decode b_MD_look 78 = .ok (.iload_n 3, 1) := by decide +kernel
theorem d_MD_look_79 : decode b_MD_look 79 = .ok (.iconst 1, 1) := by decide +kernel
theorem d_MD_look_80 : decode b_MD_look 80 = .ok (.if_icmp .ne 13, 3) := by decide +kernel
theorem d_MD_look_83 : decode b_MD_look 83 = .ok (.aload_n 0, 1) := by decide +kernel
theorem d_MD_look_84 : decode b_MD_look 84 = .ok (.getfield 39, 3) := by decide +kernel
theorem d_MD_look_87 : decode b_MD_look 87 = .ok (.iload 4, 2) := by decide +kernel
theorem d_MD_look_89 : decode b_MD_look 89 = .ok (.iaload, 1) := by decide +kernel
theorem d_MD_look_90 : decode b_MD_look 90 = .ok (.goto 16, 3) := by decide +kernel
theorem d_MD_look_93 : decode b_MD_look 93 = .ok (.aload_n 0, 1) := by decide +kernel
theorem d_MD_look_94 : decode b_MD_look 94 = .ok (.getfield 42, 3) := by decide +kernel
theorem d_MD_look_97 : decode b_MD_look 97 = .ok (.iconst 4, 1) := by decide +kernel
theorem d_MD_look_98 : decode b_MD_look 98 = .ok (.iload 4, 2) := by decide +kernel
theorem d_MD_look_100 : decode b_MD_look 100 = .ok (.imul, 1) := by decide +kernel
theorem d_MD_look_101 : decode b_MD_look 101 = .ok (.iload_n 3, 1) := by decide +kernel
theorem d_MD_look_102 : decode b_MD_look 102 = .ok (.iadd, 1) := by decide +kernel
theorem d_MD_look_103 : decode b_MD_look 103 = .ok (.iconst 2, 1) := by decide +kernel
theorem d_MD_look_104 : decode b_MD_look 104 = .ok (.isub, 1) := by decide +kernel
theorem d_MD_look_105 : decode b_MD_look 105 = .ok (.iaload, 1) := by decide +kernel
theorem d_MD_look_106 : decode b_MD_look 106 = .ok (.ireturn, 1) := by decide +kernel
theorem d_MD_file_0 : decode b_MD_file 0 = .ok (.aload_n 0, 1) := by decide +kernel
theorem d_MD_file_1 : decode b_MD_file 1 = .ok (.iconst 0, 1) := by decide +kernel
theorem d_MD_file_2 : decode b_MD_file 2 = .ok (.putfield 59, 3) := by decide +kernel
theorem d_MD_file_5 : decode b_MD_file 5 = .ok (.aload_n 0, 1) := by decide +kernel
theorem d_MD_file_6 : decode b_MD_file 6 = .ok (.iload_n 1, 1) := by decide +kernel
theorem d_MD_file_7 : decode b_MD_file 7 = .ok (.bipush 8, 2) := by decide +kernel
theorem d_MD_file_9 : decode b_MD_file 9 = .ok (.invokevirtual 63, 3) := by decide +kernel
theorem d_MD_file_12 : decode b_MD_file 12 = .ok (.ifCond .ne 12, 3) := by decide +kernel
theorem d_MD_file_15 : decode b_MD_file 15 = .ok (.aload_n 0, 1) := by decide +kernel
theorem d_MD_file_16 : decode b_MD_file 16 = .ok (.iload_n 2, 1) := by decide +kernel
theorem d_MD_file_17 : decode b_MD_file 17 = .ok (.iconst 5, 1) := by decide +kernel
theorem d_MD_file_18 : decode b_MD_file 18 = .ok (.invokevirtual 63, 3) := by decide +kernel
theorem d_MD_file_21 : decode b_MD_file 21 = .ok (.ifCond .eq 9, 3) := by decide +kernel
theorem d_MD_file_24 : decode b_MD_file 24 = .ok (.aload_n 0, 1) := by decide +kernel
theorem d_MD_file_25 : decode b_MD_file 25 = .ok (.iconst 1, 1) := by decide +kernel
theorem d_MD_file_26 : decode b_MD_file 26 = .ok (.invokevirtual 67, 3) := by decide +kernel
theorem d_MD_file_29 : decode b_MD_file 29 = .ok (.ireturn, 1) := by decide +kernel
theorem d_MD_file_30 : decode b_MD_file 30 = .ok (.iload_n 2, 1) := by decide +kernel
theorem d_MD_file_31 : decode b_MD_file 31 = .ok (.ifCond .ne 10, 3) := by decide +kernel
theorem d_MD_file_34 : decode b_MD_file 34 = .ok (.aload_n 0, 1) := by decide +kernel
theorem d_MD_file_35 : decode b_MD_file 35 = .ok (.getfield 7, 3) := by decide +kernel
theorem d_MD_file_38 : decode b_MD_file 38 = .ok (.iload_n 1, 1) := by decide +kernel
theorem d_MD_file_39 : decode b_MD_file 39 = .ok (.iaload, 1) := by decide +kernel
theorem d_MD_file_40 : decode b_MD_file 40 = .ok (.ireturn, 1) := by decide +kernel
theorem d_MD_file_41 : decode b_MD_file 41 = .ok (.iload_n 2, 1) := by decide +kernel
theorem d_MD_file_42 : decode b_MD_file 42 = .ok (.iconst 1, 1) := by decide +kernel
theorem d_MD_file_43 : decode b_MD_file 43 = .ok (.if_icmp .ne 10, 3) := by decide +kernel
theorem d_MD_file_46 : decode b_MD_file 46 = .ok (.aload_n 0, 1) := by decide +kernel
theorem d_MD_file_47 : decode b_MD_file 47 = .ok (.getfield 20, 3) := by decide +kernel
theorem d_MD_file_50 : decode b_MD_file 50 = .ok (.iload_n 1, 1) := by decide +kernel
theorem d_MD_file_51 : decode b_MD_file 51 = .ok (.iaload, 1) := by decide +kernel
theorem d_MD_file_52 : decode b_MD_file 52 = .ok (.ireturn, 1) := by decide +kernel
theorem d_MD_file_53 : decode b_MD_file 53 = .ok (.iload_n 2, 1) := by decide +kernel
theorem d_MD_file_54 : decode b_MD_file 54 = .ok (.iconst 2, 1) := by decide +kernel
theorem d_MD_file_55 : decode b_MD_file 55 = .ok (.isub, 1) := by decide +kernel
theorem d_MD_file_56 : decode b_MD_file 56 = .ok (.aload_n 0, 1) := by decide +kernel
theorem d_MD_file_57 : decode b_MD_file 57 = .ok (.getfield 20, 3) := by decide +kernel
theorem d_MD_file_60 : decode b_MD_file 60 = .ok (.iload_n 1, 1) := by decide +kernel
theorem d_MD_file_61 : decode b_MD_file 61 = .ok (.iaload, 1) := by decide +kernel
theorem d_MD_file_62 : decode b_MD_file 62 = .ok (.if_icmp .ge 18, 3) := by decide +kernel
theorem d_MD_file_65 : decode b_MD_file 65 = .ok (.aload_n 0, 1) := by decide +kernel
theorem d_MD_file_66 : decode b_MD_file 66 = .ok (.getfield 17, 3) := by decide +kernel
theorem d_MD_file_69 : decode b_MD_file 69 = .ok (.iconst 3, 1) := by decide +kernel
theorem d_MD_file_70 : decode b_MD_file 70 = .ok (.iload_n 1, 1) := by decide +kernel
theorem d_MD_file_71 : decode b_MD_file 71 = .ok (.imul, 1) := by decide +kernel
theorem d_MD_file_72 : decode b_MD_file 72 = .ok (.iload_n 2, 1) := by decide +kernel
theorem d_MD_file_73 : decode b_MD_file 73 = .ok (.iadd, 1) := by decide +kernel
theorem d_MD_file_74 : decode b_MD_file 74 = .ok (.iconst 2, 1) := by decide +kernel
theorem d_MD_file_75 : decode b_MD_file 75 = .ok (.isub, 1) := by decide +kernel
theorem d_MD_file_76 : decode b_MD_file 76 = .ok (.iaload, 1) := by decide +kernel
theorem d_MD_file_77 : decode b_MD_file 77 = .ok (.goto 4, 3) := by decide +kernel
theorem d_MD_file_80 : decode b_MD_file 80 = .ok (.iconst (-1), 1) := by decide +kernel
theorem d_MD_file_81 : decode b_MD_file 81 = .ok (.ireturn, 1) := by decide +kernel
theorem d_MD_chunk_0 : decode b_MD_chunk 0 = .ok (.aload_n 0, 1) := by decide +kernel
theorem d_MD_chunk_1 : decode b_MD_chunk 1 = .ok (.iconst 0, 1) := by decide +kernel
theorem d_MD_chunk_2 : decode b_MD_chunk 2 = .ok (.putfield 59, 3) := by decide +kernel
theorem d_MD_chunk_5 : decode b_MD_chunk 5 = .ok (.aload_n 0, 1) := by decide +kernel
theorem d_MD_chunk_6 : decode b_MD_chunk 6 = .ok (.iload_n 1, 1) := by decide +kernel
theorem d_MD_chunk_7 : decode b_MD_chunk 7 = .ok (.bipush 30, 2) := by decide +kernel
theorem d_MD_chunk_9 : decode b_MD_chunk 9 = .ok (.invokevirtual 63, 3) := by decide +kernel
theorem d_MD_chunk_12 : decode b_MD_chunk 12 = .ok (.ifCond .ne 12, 3) := by decide +kernel
theorem d_MD_chunk_15 : decode b_MD_chunk 15 = .ok (.aload_n 0, 1) := by decide +kernel
theorem d_MD_chunk_16 : decode b_MD_chunk 16 = .ok (.iload_n 2, 1) := by decide +kernel
theorem d_MD_chunk_17 : decode b_MD_chunk 17 = .ok (.iconst 5, 1) := by decide +kernel
theorem d_MD_chunk_18 : decode b_MD_chunk 18 = .ok (.invokevirtual 63, 3) := by decide +kernel
theorem d_MD_chunk_21 : decode b_MD_chunk 21 = .ok (.ifCond .eq 9, 3) := by decide +kernel
theorem d_MD_chunk_24 : decode b_MD_chunk 24 = .ok (.aload_n 0, 1) := by decide +kernel
theorem d_MD_chunk_25 : decode b_MD_chunk 25 = .ok (.iconst 1, 1) := by decide +kernel
theorem d_MD_chunk_26 : decode b_MD_chunk 26 = .ok (.invokevirtual 67, 3) := by decide +kernel
theorem d_MD_chunk_29 : decode b_MD_chunk 29 = .ok (.ireturn, 1) := by decide +kernel
theorem d_MD_chunk_30 : decode b_MD_chunk 30 = .ok (.iload_n 1, 1) := by decide +kernel
theorem d_MD_chunk_31 : decode b_MD_chunk 31 = .ok (.aload_n 0, 1) := by decide +kernel
theorem d_MD_chunk_32 : decode b_MD_chunk 32 = .ok (.getfield 78, 3) := by decide +kernel
theorem d_MD_chunk_35 : decode b_MD_chunk 35 = .ok (.if_icmp .lt 9, 3) := by decide +kernel
theorem d_MD_chunk_38 : decode b_MD_chunk 38 = .ok (.aload_n 0, 1) := by decide +kernel
theorem d_MD_chunk_39 : decode b_MD_chunk 39 = .ok (.iconst 2, 1) := by decide +kernel
theorem d_MD_chunk_40 : decode b_MD_chunk 40 = .ok (.invokevirtual 67, 3) := by decide +kernel
theorem d_MD_chunk_43 : decode b_MD_chunk 43 = .ok (.ireturn, 1) := by decide +kernel
theorem d_MD_chunk_44 : decode b_MD_chunk 44 = .ok (.iload_n 2, 1) := by decide +kernel
theorem d_MD_chunk_45 : decode b_MD_chunk 45 = .ok (.tableswitch 61 0 3 #[31, 38, 44, 51], 31) := by decide +kernel
theorem d_MD_chunk_76 : decode b_MD_chunk 76 = .ok (.aload_n 0, 1) := by decide +kernel
theorem d_MD_chunk_77 : decode b_MD_chunk 77 = .ok (.getfield 23, 3) := by decide +kernel
theorem d_MD_chunk_80 : decode b_MD_chunk 80 = .ok (.iload_n 1, 1) := by decide +kernel
theorem d_MD_chunk_81 : decode b_MD_chunk 81 = .ok (.iaload, 1) := by decide +kernel
theorem d_MD_chunk_82 : decode b_MD_chunk 82 = .ok (.ireturn, 1) := by decide +kernel
theorem d_MD_chunk_83 : decode b_MD_chunk 83 = .ok (.aload_n 0, 1) := by decide +kernel
theorem d_MD_chunk_84 : decode b_MD_chunk 84 = .ok (.iload_n 1, 1) := by decide +kernel
theorem d_MD_chunk_85 : decode b_MD_chunk 85 = .ok (.invokevirtual 101, 3) := by decide +kernel
theorem d_MD_chunk_88 : decode b_MD_chunk 88 = .ok (.ireturn, 1) := by decide +kernel
theorem d_MD_chunk_89 : decode b_MD_chunk 89 = .ok (.aload_n 0, 1) := by decide +kernel
theorem d_MD_chunk_90 : decode b_MD_chunk 90 = .ok (.getfield 26, 3) := by decide +kernel
theorem d_MD_chunk_93 : decode b_MD_chunk 93 = .ok (.iload_n 1, 1) := by decide +kernel
theorem d_MD_chunk_94 : decode b_MD_chunk 94 = .ok (.iaload, 1) := by decide +kernel
theorem d_MD_chunk_95 : decode b_MD_chunk 95 = .ok (.ireturn, 1) := by decide +kernel
theorem d_MD_chunk_96 : decode b_MD_chunk 96 = .ok (.aload_n 0, 1) := by decide +kernel
theorem d_MD_chunk_97 : decode b_MD_chunk 97 = .ok (.aload_n 0, 1) := by decide +kernel
theorem d_MD_chunk_98 : decode b_MD_chunk 98 = .ok (.iload_n 1, 1) := by decide +kernel
theorem d_MD_chunk_99 : decode b_MD_chunk 99 = .ok (.invokevirtual 98, 3) := by decide +kernel
theorem d_MD_chunk_102 : decode b_MD_chunk 102 = .ok (.invokevirtual 118, 3) := by decide +kernel
theorem d_MD_chunk_105 : decode b_MD_chunk 105 = .ok (.ireturn, 1) := by decide +kernel
theorem d_MD_chunk_106 : decode b_MD_chunk 106 = .ok (.aload_n 0, 1) := by decide +kernel
theorem d_MD_chunk_107 : decode b_MD_chunk 107 = .ok (.getfield 29, 3) := by decide +kernel
theorem d_MD_chunk_110 : decode b_MD_chunk 110 = .ok (.iload_n 1, 1) := by decide +kernel
theorem d_MD_chunk_111 : decode b_MD_chunk 111 = .ok (.daload, 1) := by decide +kernel
theorem d_MD_chunk_112 : decode b_MD_chunk 112 = .ok (.aload_n 0, 1) := by decide +kernel
theorem d_MD_chunk_113 : decode b_MD_chunk 113 = .ok (.getfield 71, 3) := by decide +kernel
theorem d_MD_chunk_116 : decode b_MD_chunk 116 = .ok (.dcmp .l, 1) := by decide +kernel
theorem d_MD_chunk_117 : decode b_MD_chunk 117 = .ok (.ifCond .le 7, 3) := by decide +kernel
theorem d_MD_chunk_120 : decode b_MD_chunk 120 = .ok (.iconst 1, 1) := by decide +kernel
theorem d_MD_chunk_121 : decode b_MD_chunk 121 = .ok (.goto 4, 3) := by decide +kernel
theorem d_MD_chunk_124 : decode b_MD_chunk 124 = .ok (.iconst 0, 1) := by decide +kernel
theorem d_MD_chunk_125 : decode b_MD_chunk 125 = .ok (.ireturn, 1) := by decide +kernel
end XDEC
