section XDEC
theorem d_CS_init_0 : decode b_CS_init 0 = .ok (.aload_n 0, 1) := by decide +kernel
theorem d_CS_init_1 : decode b_CS_init 1 = .ok (.invokespecial 3, 3) := by decide +kernel
theorem d_CS_init_4 : decode b_CS_init 4 = .ok (.aload_n 0, 1) := by decide +kernel
theorem d_CS_init_5 : decode b_CS_init 5 = .ok (.bipush 8, 2) := by decide +kernel
theorem d_CS_init_7 : decode b_CS_init 7 = .ok (.anewarray 9, 3) := by decide +kernel
theorem d_CS_init_10 : decode b_CS_init 10 = .ok (.putfield 11, 3) := by decide +kernel
theorem d_CS_init_13 : decode b_CS_init 13 = .ok (.iconst 0, 1) := by decide +kernel
theorem d_CS_init_14 : decode b_CS_init 14 = .ok (.istore_n 1, 1) := by decide +kernel
theorem d_CS_init_15 : decode b_CS_init 15 = .ok (.iload_n 1, 1) := by decide +kernel
theorem d_CS_init_16 : decode b_CS_init 16 = .ok (.bipush 8, 2) := by decide +kernel
theorem d_CS_init_18 : decode b_CS_init 18 = .ok (.if_icmp .ge 22, 3) := by decide +kernel
theorem d_CS_init_21 : decode b_CS_init 21 = .ok (.aload_n 0, 1) := by decide +kernel
theorem d_CS_init_22 : decode b_CS_init 22 = .ok (.getfield 11, 3) := by decide +kernel
theorem d_CS_init_25 : decode b_CS_init 25 = .ok (.iload_n 1, 1) := by decide +kernel
theorem d_CS_init_26 : decode b_CS_init 26 = .ok (.new 9, 3) := by decide +kernel
theorem d_CS_init_29 : decode b_CS_init 29 = .ok (.dup, 1) := by decide +kernel
theorem d_CS_init_30 : decode b_CS_init 30 = .ok (.invokespecial 15, 3) := by decide +kernel
theorem d_CS_init_33 : decode b_CS_init 33 = .ok (.aastore, 1) := by decide +kernel
theorem d_CS_init_34 : decode b_CS_init 34 = .ok (.iinc 1 1, 3) := by decide +kernel
theorem d_CS_init_37 : decode b_CS_init 37 = .ok (.goto (-22), 3) := by decide +kernel
theorem d_CS_init_40 : decode b_CS_init 40 = .ok (.aload_n 0, 1) := by decide +kernel
theorem d_CS_init_41 : decode b_CS_init 41 = .ok (.bipush 30, 2) := by decide +kernel
theorem d_CS_init_43 : decode b_CS_init 43 = .ok (.anewarray 16, 3) := by decide +kernel
theorem d_CS_init_46 : decode b_CS_init 46 = .ok (.putfield 18, 3) := by decide +kernel
theorem d_CS_init_49 : decode b_CS_init 49 = .ok (.iconst 0, 1) := by decide +kernel
theorem d_CS_init_50 : decode b_CS_init 50 = .ok (.istore_n 1, 1) := by decide +kernel
theorem d_CS_init_51 : decode b_CS_init 51 = .ok (.iload_n 1, 1) := by decide +kernel
theorem d_CS_init_52 : decode b_CS_init 52 = .ok (.bipush 30, 2) := by decide +kernel
theorem d_CS_init_54 : decode b_CS_init 54 = .ok (.if_icmp .ge 22, 3) := by decide +kernel
theorem d_CS_init_57 : decode b_CS_init 57 = .ok (.aload_n 0, 1) := by decide +kernel
theorem d_CS_init_58 : decode b_CS_init 58 = .ok (.getfield 18, 3) := by decide +kernel
theorem d_CS_init_61 : decode b_CS_init 61 = .ok (.iload_n 1, 1) := by decide +kernel
theorem d_CS_init_62 : decode b_CS_init 62 = .ok (.new 16, 3) := by decide +kernel
theorem d_CS_init_65 : decode b_CS_init 65 = .ok (.dup, 1) := by decide +kernel
theorem d_CS_init_66 : decode b_CS_init 66 = .ok (.invokespecial 22, 3) := by decide +kernel
theorem d_CS_init_69 : decode b_CS_init 69 = .ok (.aastore, 1) := by decide +kernel
theorem d_CS_init_70 : decode b_CS_init 70 = .ok (.iinc 1 1, 3) := by decide +kernel
theorem d_CS_init_73 : decode b_CS_init 73 = .ok (.goto (-22), 3) := by decide +kernel
theorem d_CS_init_76 : decode b_CS_init 76 = .ok (.aload_n 0, 1) := by decide +kernel
theorem d_CS_init_77 : decode b_CS_init 77 = .ok (.iconst 5, 1) := by decide +kernel
theorem d_CS_init_78 : decode b_CS_init 78 = .ok (.anewarray 23, 3) := by decide +kernel
theorem d_CS_init_81 : decode b_CS_init 81 = .ok (.putfield 25, 3) := by decide +kernel
theorem d_CS_init_84 : decode b_CS_init 84 = .ok (.iconst 0, 1) := by decide +kernel
theorem d_CS_init_85 : decode b_CS_init 85 = .ok (.istore_n 1, 1) := by decide +kernel
theorem d_CS_init_86 : decode b_CS_init 86 = .ok (.iload_n 1, 1) := by decide +kernel
theorem d_CS_init_87 : decode b_CS_init 87 = .ok (.iconst 5, 1) := by decide +kernel
theorem d_CS_init_88 : decode b_CS_init 88 = .ok (.if_icmp .ge 22, 3) := by decide +kernel
theorem d_CS_init_91 : decode b_CS_init 91 = .ok (.aload_n 0, 1) := by decide +kernel
theorem d_CS_init_92 : decode b_CS_init 92 = .ok (.getfield 25, 3) := by decide +kernel
theorem d_CS_init_95 : decode b_CS_init 95 = .ok (.iload_n 1, 1) := by decide +kernel
theorem d_CS_init_96 : decode b_CS_init 96 = .ok (.new 23, 3) := by decide +kernel
theorem d_CS_init_99 : decode b_CS_init 99 = .ok (.dup, 1) := by decide +kernel
theorem d_CS_init_100 : decode b_CS_init 100 = .ok (.invokespecial 29, 3) := by decide +kernel
theorem d_CS_init_103 : decode b_CS_init 103 = .ok (.aastore, 1) := by decide +kernel
theorem d_CS_init_104 : decode b_CS_init 104 = .ok (.iinc 1 1, 3) := by decide +kernel
theorem d_CS_init_107 : decode b_CS_init 107 = .ok (.goto (-21), 3) := by decide +kernel
theorem d_CS_init_110 : decode b_CS_init 110 = .ok (.aload_n 0, 1) := by decide +kernel
theorem d_CS_init_111 : decode b_CS_init 111 = .ok (.bipush 72, 2) := by decide +kernel
theorem d_CS_init_113 : decode b_CS_init 113 = .ok (.anewarray 30, 3) := by decide +kernel
theorem d_CS_init_116 : decode b_CS_init 116 = .ok (.putfield 32, 3) := by decide +kernel
theorem d_CS_init_119 : decode b_CS_init 119 = .ok (.iconst 0, 1) := by decide +kernel
theorem d_CS_init_120 : decode b_CS_init 120 = .ok (.istore_n 1, 1) := by decide +kernel
theorem d_CS_init_121 : decode b_CS_init 121 = .ok (.iload_n 1, 1) := by decide +kernel
theorem d_CS_init_122 : decode b_CS_init 122 = .ok (.bipush 72, 2) := by decide +kernel
theorem d_CS_init_124 : decode b_CS_init 124 = .ok (.if_icmp .ge 22, 3) := by decide +kernel
theorem d_CS_init_127 : decode b_CS_init 127 = .ok (.aload_n 0, 1) := by decide +kernel
theorem d_CS_init_128 : decode b_CS_init 128 = .ok (.getfield 32, 3) := by decide +kernel
theorem d_CS_init_131 : decode b_CS_init 131 = .ok (.iload_n 1, 1) := by decide +kernel
theorem d_CS_init_132 : decode b_CS_init 132 = .ok (.new 30, 3) := by decide +kernel
theorem d_CS_init_135 : decode b_CS_init 135 = .ok (.dup, 1) := by decide +kernel
theorem d_CS_init_136 : decode b_CS_init 136 = .ok (.invokespecial 36, 3) := by decide +kernel
theorem d_CS_init_139 : decode b_CS_init 139 = .ok (.aastore, 1) := by decide +kernel
theorem d_CS_init_140 : decode b_CS_init 140 = .ok (.iinc 1 1, 3) := by decide +kernel
theorem d_CS_init_143 : decode b_CS_init 143 = .ok (.goto (-22), 3) := by decide +kernel
theorem d_CS_init_146 : decode b_CS_init 146 = .ok (.return_, 1) := by decide +kernel
theorem d_FE_init_0 : decode b_FE_init 0 = .ok (.aload_n 0, 1) := by decide +kernel
theorem d_FE_init_1 : decode b_FE_init 1 = .ok (.invokespecial 3, 3) := by decide +kernel
theorem d_FE_init_4 : decode b_FE_init 4 = .ok (.aload_n 0, 1) := by decide +kernel
theorem d_FE_init_5 : decode b_FE_init 5 = .ok (.iconst 3, 1) := by decide +kernel
theorem d_FE_init_6 : decode b_FE_init 6 = .ok (.newarray .int, 2) := by decide +kernel
theorem d_FE_init_8 : decode b_FE_init 8 = .ok (.putfield 9, 3) := by decide +kernel
theorem d_FE_init_11 : decode b_FE_init 11 = .ok (.return_, 1) := by decide +kernel
theorem d_CH_init_0 : decode b_CH_init 0 = .ok (.aload_n 0, 1) := by decide +kernel
theorem d_CH_init_1 : decode b_CH_init 1 = .ok (.invokespecial 1, 3) := by decide +kernel
theorem d_CH_init_4 : decode b_CH_init 4 = .ok (.return_, 1) := by decide +kernel
theorem d_SV_init_0 : decode b_SV_init 0 = .ok (.aload_n 0, 1) := by decide +kernel
theorem d_SV_init_1 : decode b_SV_init 1 = .ok (.invokespecial 3, 3) := by decide +kernel
theorem d_SV_init_4 : decode b_SV_init 4 = .ok (.aload_n 0, 1) := by decide +kernel
theorem d_SV_init_5 : decode b_SV_init 5 = .ok (.bipush 30, 2) := by decide +kernel
theorem d_SV_init_7 : decode b_SV_init 7 = .ok (.newarray .int, 2) := by decide +kernel
theorem d_SV_init_9 : decode b_SV_init 9 = .ok (.putfield 9, 3) := by decide +kernel
theorem d_SV_init_12 : decode b_SV_init 12 = .ok (.aload_n 0, 1) := by decide +kernel
theorem d_SV_init_13 : decode b_SV_init 13 = .ok (.bipush 30, 2) := by decide +kernel
theorem d_SV_init_15 : decode b_SV_init 15 = .ok (.newarray .int, 2) := by decide +kernel
theorem d_SV_init_17 : decode b_SV_init 17 = .ok (.putfield 15, 3) := by decide +kernel
theorem d_SV_init_20 : decode b_SV_init 20 = .ok (.aload_n 0, 1) := by decide +kernel
theorem d_SV_init_21 : decode b_SV_init 21 = .ok (.bipush 120, 2) := by decide +kernel
theorem d_SV_init_23 : decode b_SV_init 23 = .ok (.newarray .int, 2) := by decide +kernel
theorem d_SV_init_25 : decode b_SV_init 25 = .ok (.putfield 18, 3) := by decide +kernel
theorem d_SV_init_28 : decode b_SV_init 28 = .ok (.aload_n 0, 1) := by decide +kernel
theorem d_SV_init_29 : decode b_SV_init 29 = .ok (.iconst 1, 1) := by decide +kernel
theorem d_SV_init_30 : decode b_SV_init 30 = .ok (.putfield 21, 3) := by decide +kernel
theorem d_SV_init_33 : decode b_SV_init 33 = .ok (.return_, 1) := by decide +kernel
theorem d_KP_init_0 : decode b_KP_init 0 = .ok (.aload_n 0, 1) := by decide +kernel
theorem d_KP_init_1 : decode b_KP_init 1 = .ok (.invokespecial 1, 3) := by decide +kernel
theorem d_KP_init_4 : decode b_KP_init 4 = .ok (.return_, 1) := by decide +kernel
theorem d_CS_sweep_0 : decode b_CS_sweep 0 = .ok (.iconst 0, 1) := by decide +kernel
theorem d_CS_sweep_1 : decode b_CS_sweep 1 = .ok (.istore_n 1, 1) := by decide +kernel
theorem d_CS_sweep_2 : decode b_CS_sweep 2 = .ok (.iconst 0, 1) := by decide +kernel
theorem d_CS_sweep_3 : decode b_CS_sweep 3 = .ok (.istore_n 2, 1) := by decide +kernel
theorem d_CS_sweep_4 : decode b_CS_sweep 4 = .ok (.iload_n 2, 1) := by decide +kernel
theorem d_CS_sweep_5 : decode b_CS_sweep 5 = .ok (.bipush 8, 2) := by decide +kernel
theorem d_CS_sweep_7 : decode b_CS_sweep 7 = .ok (.if_icmp .ge 56, 3) := by decide +kernel
theorem d_CS_sweep_10 : decode b_CS_sweep 10 = .ok (.aload_n 0, 1) := by decide +kernel
theorem d_CS_sweep_11 : decode b_CS_sweep 11 = .ok (.getfield 11, 3) := by decide +kernel
theorem d_CS_sweep_14 : decode b_CS_sweep 14 = .ok (.iload_n 2, 1) := by decide +kernel
theorem d_CS_sweep_15 : decode b_CS_sweep 15 = .ok (.aaload, 1) := by decide +kernel
theorem d_CS_sweep_16 : decode b_CS_sweep 16 = .ok (.getfield 45, 3) := by decide +kernel
theorem d_CS_sweep_19 : decode b_CS_sweep 19 = .ok (.iconst 2, 1) := by decide +kernel
theorem d_CS_sweep_20 : decode b_CS_sweep 20 = .ok (.if_icmp .ne 37, 3) := by decide +kernel
theorem d_CS_sweep_23 : decode b_CS_sweep 23 = .ok (.aload_n 0, 1) := by decide +kernel
theorem d_CS_sweep_24 : decode b_CS_sweep 24 = .ok (.getfield 56, 3) := by decide +kernel
theorem d_CS_sweep_27 : decode b_CS_sweep 27 = .ok (.aload_n 0, 1) := by decide +kernel
theorem d_CS_sweep_28 : decode b_CS_sweep 28 = .ok (.getfield 11, 3) := by decide +kernel
theorem d_CS_sweep_31 : decode b_CS_sweep 31 = .ok (.iload_n 2, 1) := by decide +kernel
theorem d_CS_sweep_32 : decode b_CS_sweep 32 = .ok (.aaload, 1) := by decide +kernel
theorem d_CS_sweep_33 : decode b_CS_sweep 33 = .ok (.getfield 60, 3) := by decide +kernel
theorem d_CS_sweep_36 : decode b_CS_sweep 36 = .ok (.dsub, 1) := by decide +kernel
theorem d_CS_sweep_37 : decode b_CS_sweep 37 = .ok (.ldc2_w 180, 3) := by decide +kernel
theorem d_CS_sweep_40 : decode b_CS_sweep 40 = .ok (.dcmp .l, 1) := by decide +kernel
theorem d_CS_sweep_41 : decode b_CS_sweep 41 = .ok (.ifCond .lt 16, 3) := by decide +kernel
theorem d_CS_sweep_44 : decode b_CS_sweep 44 = .ok (.aload_n 0, 1) := by decide +kernel
theorem d_CS_sweep_45 : decode b_CS_sweep 45 = .ok (.aload_n 0, 1) := by decide +kernel
theorem d_CS_sweep_46 : decode b_CS_sweep 46 = .ok (.getfield 11, 3) := by decide +kernel
theorem d_CS_sweep_49 : decode b_CS_sweep 49 = .ok (.iload_n 2, 1) := by decide +kernel
theorem d_CS_sweep_50 : decode b_CS_sweep 50 = .ok (.aaload, 1) := by decide +kernel
theorem d_CS_sweep_51 : decode b_CS_sweep 51 = .ok (.invokevirtual 182, 3) := by decide +kernel
theorem d_CS_sweep_54 : decode b_CS_sweep 54 = .ok (.iinc 1 1, 3) := by decide +kernel
theorem d_CS_sweep_57 : decode b_CS_sweep 57 = .ok (.iinc 2 1, 3) := by decide +kernel
theorem d_CS_sweep_60 : decode b_CS_sweep 60 = .ok (.goto (-56), 3) := by decide +kernel
theorem d_CS_sweep_63 : decode b_CS_sweep 63 = .ok (.iload_n 1, 1) := by decide +kernel
theorem d_CS_sweep_64 : decode b_CS_sweep 64 = .ok (.ireturn, 1) := by decide +kernel
theorem d_CS_forget_0 : decode b_CS_forget 0 = .ok (.iconst 0, 1) := by decide +kernel
theorem d_CS_forget_1 : decode b_CS_forget 1 = .ok (.istore_n 2, 1) := by decide +kernel
theorem d_CS_forget_2 : decode b_CS_forget 2 = .ok (.iload_n 2, 1) := by decide +kernel
theorem d_CS_forget_3 : decode b_CS_forget 3 = .ok (.aload_n 1, 1) := by decide +kernel
theorem d_CS_forget_4 : decode b_CS_forget 4 = .ok (.getfield 63, 3) := by decide +kernel
theorem d_CS_forget_7 : decode b_CS_forget 7 = .ok (.if_icmp .ge 29, 3) := by decide +kernel
theorem d_CS_forget_10 : decode b_CS_forget 10 = .ok (.aload_n 0, 1) := by decide +kernel
theorem d_CS_forget_11 : decode b_CS_forget 11 = .ok (.getfield 18, 3) := by decide +kernel
theorem d_CS_forget_14 : decode b_CS_forget 14 = .ok (.aload_n 1, 1) := by decide +kernel
theorem d_CS_forget_15 : decode b_CS_forget 15 = .ok (.getfield 73, 3) := by decide +kernel
theorem d_CS_forget_18 : decode b_CS_forget 18 = .ok (.iload_n 2, 1) := by decide +kernel
theorem d_CS_forget_19 : decode b_CS_forget 19 = .ok (.iaload, 1) := by decide +kernel
theorem d_CS_forget_20 : decode b_CS_forget 20 = .ok (.aaload, 1) := by decide +kernel
theorem d_CS_forget_21 : decode b_CS_forget 21 = .ok (.dup, 1) := by decide +kernel
theorem d_CS_forget_22 : decode b_CS_forget 22 = .ok (.getfield 80, 3) := by decide +kernel
theorem d_CS_forget_25 : decode b_CS_forget 25 = .ok (.iconst 1, 1) := by decide +kernel
theorem d_CS_forget_26 : decode b_CS_forget 26 = .ok (.isub, 1) := by decide +kernel
theorem d_CS_forget_27 : decode b_CS_forget 27 = .ok (.putfield 80, 3) := by decide +kernel
theorem d_CS_forget_30 : decode b_CS_forget 30 = .ok (.iinc 2 1, 3) := by decide +kernel
theorem d_CS_forget_33 : decode b_CS_forget 33 = .ok (.goto (-31), 3) := by decide +kernel
theorem d_CS_forget_36 : decode b_CS_forget 36 = .ok (.aload_n 1, 1) := by decide +kernel
theorem d_CS_forget_37 : decode b_CS_forget 37 = .ok (.iconst 0, 1) := by decide +kernel
theorem d_CS_forget_38 : decode b_CS_forget 38 = .ok (.putfield 63, 3) := by decide +kernel
theorem d_CS_forget_41 : decode b_CS_forget 41 = .ok (.aload_n 1, 1) := by decide +kernel
theorem d_CS_forget_42 : decode b_CS_forget 42 = .ok (.iconst 0, 1) := by decide +kernel
theorem d_CS_forget_43 : decode b_CS_forget 43 = .ok (.putfield 45, 3) := by decide +kernel
theorem d_CS_forget_46 : decode b_CS_forget 46 = .ok (.return_, 1) := by decide +kernel
theorem d_CS_create_0 : decode b_CS_create 0 = .ok (.iload_n 1, 1) := by decide +kernel
theorem d_CS_create_1 : decode b_CS_create 1 = .ok (.bipush 8, 2) := by decide +kernel
theorem d_CS_create_3 : decode b_CS_create 3 = .ok (.invokestatic 37, 3) := by decide +kernel
theorem d_CS_create_6 : decode b_CS_create 6 = .ok (.aload_n 0, 1) := by decide +kernel
theorem d_CS_create_7 : decode b_CS_create 7 = .ok (.iload_n 1, 1) := by decide +kernel
theorem d_CS_create_8 : decode b_CS_create 8 = .ok (.invokevirtual 41, 3) := by decide +kernel
theorem d_CS_create_11 : decode b_CS_create 11 = .ok (.astore_n 2, 1) := by decide +kernel
theorem d_CS_create_12 : decode b_CS_create 12 = .ok (.aload_n 2, 1) := by decide +kernel
theorem d_CS_create_13 : decode b_CS_create 13 = .ok (.iconst 1, 1) := by decide +kernel
theorem d_CS_create_14 : decode b_CS_create 14 = .ok (.putfield 45, 3) := by decide +kernel
theorem d_CS_create_17 : decode b_CS_create 17 = .ok (.aload_n 0, 1) := by decide +kernel
theorem d_CS_create_18 : decode b_CS_create 18 = .ok (.invokevirtual 49, 3) := by decide +kernel
theorem d_CS_create_21 : decode b_CS_create 21 = .ok (.ireturn, 1) := by decide +kernel
theorem d_CS_checkRange_0 : decode b_CS_checkRange 0 = .ok (.iload_n 0, 1) := by decide +kernel
theorem d_CS_checkRange_1 : decode b_CS_checkRange 1 = .ok (.ifCond .lt 8, 3) := by decide +kernel
theorem d_CS_checkRange_4 : decode b_CS_checkRange 4 = .ok (.iload_n 0, 1) := by decide +kernel
theorem d_CS_checkRange_5 : decode b_CS_checkRange 5 = .ok (.iload_n 1, 1) := by decide +kernel
theorem d_CS_checkRange_6 : decode b_CS_checkRange 6 = .ok (.if_icmp .lt 13, 3) := by decide +kernel
theorem d_CS_checkRange_9 : decode b_CS_checkRange 9 = .ok (.new 188, 3) := by decide +kernel
theorem d_CS_checkRange_12 : decode b_CS_checkRange 12 = .ok (.dup, 1) := by decide +kernel
theorem d_CS_checkRange_13 : decode b_CS_checkRange 13 = .ok (.ldc 214, 2) := by decide +kernel
theorem d_CS_checkRange_15 : decode b_CS_checkRange 15 = .ok (.invokespecial 192, 3) := by decide +kernel
theorem d_CS_checkRange_18 : decode b_CS_checkRange 18 = .ok (.athrow, 1) := by decide +kernel
theorem d_CS_checkRange_19 : decode b_CS_checkRange 19 = .ok (.return_, 1) := by decide +kernel
theorem d_CS_fileNotYet_0 : decode b_CS_fileNotYet 0 = .ok (.aload_n 0, 1) := by decide +kernel
theorem d_CS_fileNotYet_1 : decode b_CS_fileNotYet 1 = .ok (.getfield 11, 3) := by decide +kernel
theorem d_CS_fileNotYet_4 : decode b_CS_fileNotYet 4 = .ok (.iload_n 1, 1) := by decide +kernel
theorem d_CS_fileNotYet_5 : decode b_CS_fileNotYet 5 = .ok (.aaload, 1) := by decide +kernel
theorem d_CS_fileNotYet_6 : decode b_CS_fileNotYet 6 = .ok (.getfield 45, 3) := by decide +kernel
theorem d_CS_fileNotYet_9 : decode b_CS_fileNotYet 9 = .ok (.ifCond .eq 13, 3) := by decide +kernel
theorem d_CS_fileNotYet_12 : decode b_CS_fileNotYet 12 = .ok (.new 137, 3) := by decide +kernel
theorem d_CS_fileNotYet_15 : decode b_CS_fileNotYet 15 = .ok (.dup, 1) := by decide +kernel
theorem d_CS_fileNotYet_16 : decode b_CS_fileNotYet 16 = .ok (.ldc 223, 2) := by decide +kernel
theorem d_CS_fileNotYet_18 : decode b_CS_fileNotYet 18 = .ok (.invokespecial 141, 3) := by decide +kernel
theorem d_CS_fileNotYet_21 : decode b_CS_fileNotYet 21 = .ok (.athrow, 1) := by decide +kernel
theorem d_CS_fileNotYet_22 : decode b_CS_fileNotYet 22 = .ok (.aload_n 0, 1) := by decide +kernel
theorem d_CS_fileNotYet_23 : decode b_CS_fileNotYet 23 = .ok (.getfield 11, 3) := by decide +kernel
theorem d_CS_fileNotYet_26 : decode b_CS_fileNotYet 26 = .ok (.iload_n 1, 1) := by decide +kernel
theorem d_CS_fileNotYet_27 : decode b_CS_fileNotYet 27 = .ok (.aaload, 1) := by decide +kernel
theorem d_CS_fileNotYet_28 : decode b_CS_fileNotYet 28 = .ok (.areturn, 1) := by decide +kernel
theorem d_CS_countThere_0 : decode b_CS_countThere 0 = .ok (.iconst 0, 1) := by decide +kernel
theorem d_CS_countThere_1 : decode b_CS_countThere 1 = .ok (.istore_n 1, 1) := by decide +kernel
theorem d_CS_countThere_2 : decode b_CS_countThere 2 = .ok (.iconst 0, 1) := by decide +kernel
theorem d_CS_countThere_3 : decode b_CS_countThere 3 = .ok (.istore_n 2, 1) := by decide +kernel
theorem d_CS_countThere_4 : decode b_CS_countThere 4 = .ok (.iload_n 2, 1) := by decide +kernel
theorem d_CS_countThere_5 : decode b_CS_countThere 5 = .ok (.bipush 8, 2) := by decide +kernel
theorem d_CS_countThere_7 : decode b_CS_countThere 7 = .ok (.if_icmp .ge 25, 3) := by decide +kernel
theorem d_CS_countThere_10 : decode b_CS_countThere 10 = .ok (.aload_n 0, 1) := by decide +kernel
theorem d_CS_countThere_11 : decode b_CS_countThere 11 = .ok (.getfield 11, 3) := by decide +kernel
theorem d_CS_countThere_14 : decode b_CS_countThere 14 = .ok (.iload_n 2, 1) := by decide +kernel
theorem d_CS_countThere_15 : decode b_CS_countThere 15 = .ok (.aaload, 1) := by decide +kernel
theorem d_CS_countThere_16 : decode b_CS_countThere 16 = .ok (.getfield 45, 3) := by decide +kernel
theorem d_CS_countThere_19 : decode b_CS_countThere 19 = .ok (.iconst 1, 1) := by decide +kernel
theorem d_CS_countThere_20 : decode b_CS_countThere 20 = .ok (.if_icmp .ne 6, 3) := by decide +kernel
theorem d_CS_countThere_23 : decode b_CS_countThere 23 = .ok (.iinc 1 1, 3) := by decide +kernel
theorem d_CS_countThere_26 : decode b_CS_countThere 26 = .ok (.iinc 2 1, 3) := by decide +kernel
theorem d_CS_countThere_29 : decode b_CS_countThere 29 = .ok (.goto (-25), 3) := by decide +kernel
theorem d_CS_countThere_32 : decode b_CS_countThere 32 = .ok (.iload_n 1, 1) := by decide +kernel
theorem d_CS_countThere_33 : decode b_CS_countThere 33 = .ok (.ireturn, 1) := by decide +kernel
theorem d_CS_remove_0 : decode b_CS_remove 0 = .ok (.iload_n 1, 1) := by decide +kernel
theorem d_CS_remove_1 : decode b_CS_remove 1 = .ok (.bipush 8, 2) := by decide +kernel
theorem d_CS_remove_3 : decode b_CS_remove 3 = .ok (.invokestatic 37, 3) := by decide +kernel
theorem d_CS_remove_6 : decode b_CS_remove 6 = .ok (.aload_n 0, 1) := by decide +kernel
theorem d_CS_remove_7 : decode b_CS_remove 7 = .ok (.iload_n 1, 1) := by decide +kernel
theorem d_CS_remove_8 : decode b_CS_remove 8 = .ok (.invokevirtual 53, 3) := by decide +kernel
theorem d_CS_remove_11 : decode b_CS_remove 11 = .ok (.astore_n 2, 1) := by decide +kernel
theorem d_CS_remove_12 : decode b_CS_remove 12 = .ok (.aload_n 2, 1) := by decide +kernel
theorem d_CS_remove_13 : decode b_CS_remove 13 = .ok (.iconst 2, 1) := by decide +kernel
theorem d_CS_remove_14 : decode b_CS_remove 14 = .ok (.putfield 45, 3) := by decide +kernel
theorem d_CS_remove_17 : decode b_CS_remove 17 = .ok (.aload_n 2, 1) := by decide +kernel
theorem d_CS_remove_18 : decode b_CS_remove 18 = .ok (.aload_n 0, 1) := by decide +kernel
theorem d_CS_remove_19 : decode b_CS_remove 19 = .ok (.getfield 56, 3) := by decide +kernel
theorem d_CS_remove_22 : decode b_CS_remove 22 = .ok (.putfield 60, 3) := by decide +kernel
theorem d_CS_remove_25 : decode b_CS_remove 25 = .ok (.aload_n 2, 1) := by decide +kernel
theorem d_CS_remove_26 : decode b_CS_remove 26 = .ok (.getfield 63, 3) := by decide +kernel
theorem d_CS_remove_29 : decode b_CS_remove 29 = .ok (.ireturn, 1) := by decide +kernel
theorem d_CS_fileThere_0 : decode b_CS_fileThere 0 = .ok (.aload_n 0, 1) := by decide +kernel
theorem d_CS_fileThere_1 : decode b_CS_fileThere 1 = .ok (.getfield 11, 3) := by decide +kernel
theorem d_CS_fileThere_4 : decode b_CS_fileThere 4 = .ok (.iload_n 1, 1) := by decide +kernel
theorem d_CS_fileThere_5 : decode b_CS_fileThere 5 = .ok (.aaload, 1) := by decide +kernel
theorem d_CS_fileThere_6 : decode b_CS_fileThere 6 = .ok (.getfield 45, 3) := by decide +kernel
theorem d_CS_fileThere_9 : decode b_CS_fileThere 9 = .ok (.iconst 1, 1) := by decide +kernel
theorem d_CS_fileThere_10 : decode b_CS_fileThere 10 = .ok (.if_icmp .eq 13, 3) := by decide +kernel
theorem d_CS_fileThere_13 : decode b_CS_fileThere 13 = .ok (.new 66, 3) := by decide +kernel
theorem d_CS_fileThere_16 : decode b_CS_fileThere 16 = .ok (.dup, 1) := by decide +kernel
theorem d_CS_fileThere_17 : decode b_CS_fileThere 17 = .ok (.ldc 221, 2) := by decide +kernel
theorem d_CS_fileThere_19 : decode b_CS_fileThere 19 = .ok (.invokespecial 70, 3) := by decide +kernel
theorem d_CS_fileThere_22 : decode b_CS_fileThere 22 = .ok (.athrow, 1) := by decide +kernel
theorem d_CS_fileThere_23 : decode b_CS_fileThere 23 = .ok (.aload_n 0, 1) := by decide +kernel
theorem d_CS_fileThere_24 : decode b_CS_fileThere 24 = .ok (.getfield 11, 3) := by decide +kernel
theorem d_CS_fileThere_27 : decode b_CS_fileThere 27 = .ok (.iload_n 1, 1) := by decide +kernel
theorem d_CS_fileThere_28 : decode b_CS_fileThere 28 = .ok (.aaload, 1) := by decide +kernel
theorem d_CS_fileThere_29 : decode b_CS_fileThere 29 = .ok (.areturn, 1) := by decide +kernel
theorem d_CS_restore_0 : decode b_CS_restore 0 = .ok (.iload_n 1, 1) := by decide +kernel
theorem d_CS_restore_1 : decode b_CS_restore 1 = .ok (.bipush 8, 2) := by decide +kernel
theorem d_CS_restore_3 : decode b_CS_restore 3 = .ok (.invokestatic 37, 3) := by decide +kernel
theorem d_CS_restore_6 : decode b_CS_restore 6 = .ok (.aload_n 0, 1) := by decide +kernel
theorem d_CS_restore_7 : decode b_CS_restore 7 = .ok (.getfield 11, 3) := by decide +kernel
theorem d_CS_restore_10 : decode b_CS_restore 10 = .ok (.iload_n 1, 1) := by decide +kernel
theorem d_CS_restore_11 : decode b_CS_restore 11 = .ok (.aaload, 1) := by decide +kernel
theorem d_CS_restore_12 : decode b_CS_restore 12 = .ok (.astore_n 2, 1) := by decide +kernel
theorem d_CS_restore_13 : decode b_CS_restore 13 = .ok (.aload_n 2, 1) := by decide +kernel
theorem d_CS_restore_14 : decode b_CS_restore 14 = .ok (.getfield 45, 3) := by decide +kernel
theorem d_CS_restore_17 : decode b_CS_restore 17 = .ok (.iconst 2, 1) := by decide +kernel
theorem d_CS_restore_18 : decode b_CS_restore 18 = .ok (.if_icmp .eq 13, 3) := by decide +kernel
theorem d_CS_restore_21 : decode b_CS_restore 21 = .ok (.new 66, 3) := by decide +kernel
theorem d_CS_restore_24 : decode b_CS_restore 24 = .ok (.dup, 1) := by decide +kernel
theorem d_CS_restore_25 : decode b_CS_restore 25 = .ok (.ldc 68, 2) := by decide +kernel
theorem d_CS_restore_27 : decode b_CS_restore 27 = .ok (.invokespecial 70, 3) := by decide +kernel
theorem d_CS_restore_30 : decode b_CS_restore 30 = .ok (.athrow, 1) := by decide +kernel
theorem d_CS_restore_31 : decode b_CS_restore 31 = .ok (.aload_n 2, 1) := by decide +kernel
theorem d_CS_restore_32 : decode b_CS_restore 32 = .ok (.iconst 1, 1) := by decide +kernel
theorem d_CS_restore_33 : decode b_CS_restore 33 = .ok (.putfield 45, 3) := by decide +kernel
theorem d_CS_restore_36 : decode b_CS_restore 36 = .ok (.aload_n 2, 1) := by decide +kernel
theorem d_CS_restore_37 : decode b_CS_restore 37 = .ok (.getfield 63, 3) := by decide +kernel
theorem d_CS_restore_40 : decode b_CS_restore 40 = .ok (.ireturn, 1) := by decide +kernel
theorem d_CS_copy_0 : decode b_CS_copy 0 = .ok (.iload_n 1, 1) := by decide +kernel
theorem d_CS_copy_1 : decode b_CS_copy 1 = .ok (.bipush 8, 2) := by decide +kernel
theorem d_CS_copy_3 : decode b_CS_copy 3 = .ok (.invokestatic 37, 3) := by decide +kernel
theorem d_CS_copy_6 : decode b_CS_copy 6 = .ok (.iload_n 2, 1) := by decide +kernel
theorem d_CS_copy_7 : decode b_CS_copy 7 = .ok (.bipush 8, 2) := by decide +kernel
theorem d_CS_copy_9 : decode b_CS_copy 9 = .ok (.invokestatic 37, 3) := by decide +kernel
theorem d_CS_copy_12 : decode b_CS_copy 12 = .ok (.aload_n 0, 1) := by decide +kernel
theorem d_CS_copy_13 : decode b_CS_copy 13 = .ok (.iload_n 1, 1) := by decide +kernel
theorem d_CS_copy_14 : decode b_CS_copy 14 = .ok (.invokevirtual 53, 3) := by decide +kernel
theorem d_CS_copy_17 : decode b_CS_copy 17 = .ok (.astore_n 3, 1) := by decide +kernel
theorem d_CS_copy_18 : decode b_CS_copy 18 = .ok (.aload_n 0, 1) := by decide +kernel
theorem d_CS_copy_19 : decode b_CS_copy 19 = .ok (.iload_n 2, 1) := by decide +kernel
theorem d_CS_copy_20 : decode b_CS_copy 20 = .ok (.invokevirtual 41, 3) := by decide +kernel
theorem d_CS_copy_23 : decode b_CS_copy 23 = .ok (.astore 4, 2) := by decide +kernel
theorem d_CS_copy_25 : decode b_CS_copy 25 = .ok (.aload 4, 2) := by decide +kernel
theorem d_CS_copy_27 : decode b_CS_copy 27 = .ok (.iconst 1, 1) := by decide +kernel
theorem d_CS_copy_28 : decode b_CS_copy 28 = .ok (.putfield 45, 3) := by decide +kernel
theorem d_CS_copy_31 : decode b_CS_copy 31 = .ok (.iconst 0, 1) := by decide +kernel
theorem d_CS_copy_32 : decode b_CS_copy 32 = .ok (.istore 5, 2) := by decide +kernel
theorem d_CS_copy_34 : decode b_CS_copy 34 = .ok (.iload 5, 2) := by decide +kernel
theorem d_CS_copy_36 : decode b_CS_copy 36 = .ok (.aload_n 3, 1) := by decide +kernel
theorem d_CS_copy_37 : decode b_CS_copy 37 = .ok (.getfield 63, 3) := by decide +kernel
theorem d_CS_copy_40 : decode b_CS_copy 40 = .ok (.if_icmp .ge 52, 3) := by decide +kernel
theorem d_CS_copy_43 : decode b_CS_copy 43 = .ok (.aload_n 0, 1) := by decide +kernel
theorem d_CS_copy_44 : decode b_CS_copy 44 = .ok (.getfield 18, 3) := by decide +kernel
theorem d_CS_copy_47 : decode b_CS_copy 47 = .ok (.aload_n 3, 1) := by decide +kernel
theorem d_CS_copy_48 : decode b_CS_copy 48 = .ok (.getfield 73, 3) := by decide +kernel
theorem d_CS_copy_51 : decode b_CS_copy 51 = .ok (.iload 5, 2) := by decide +kernel
theorem d_CS_copy_53 : decode b_CS_copy 53 = .ok (.iaload, 1) := by decide +kernel
theorem d_CS_copy_54 : decode b_CS_copy 54 = .ok (.aaload, 1) := by decide +kernel
theorem d_CS_copy_55 : decode b_CS_copy 55 = .ok (.astore 6, 2) := by decide +kernel
theorem d_CS_copy_57 : decode b_CS_copy 57 = .ok (.aload 6, 2) := by decide +kernel
theorem d_CS_copy_59 : decode b_CS_copy 59 = .ok (.dconst 0, 1) := by decide +kernel
theorem d_CS_copy_60 : decode b_CS_copy 60 = .ok (.putfield 77, 3) := by decide +kernel
theorem d_CS_copy_63 : decode b_CS_copy 63 = .ok (.aload 6, 2) := by decide +kernel
theorem d_CS_copy_65 : decode b_CS_copy 65 = .ok (.dup, 1) := by decide +kernel
theorem d_CS_copy_66 : decode b_CS_copy 66 = .ok (.getfield 80, 3) := by decide +kernel
theorem d_CS_copy_69 : decode b_CS_copy 69 = .ok (.iconst 1, 1) := by decide +kernel
theorem d_CS_copy_70 : decode b_CS_copy 70 = .ok (.iadd, 1) := by decide +kernel
theorem d_CS_copy_71 : decode b_CS_copy 71 = .ok (.putfield 80, 3) := by decide +kernel
theorem d_CS_copy_74 : decode b_CS_copy 74 = .ok (.aload 4, 2) := by decide +kernel
theorem d_CS_copy_76 : decode b_CS_copy 76 = .ok (.aload_n 3, 1) := by decide +kernel
theorem d_CS_copy_77 : decode b_CS_copy 77 = .ok (.getfield 73, 3) := by decide +kernel
theorem d_CS_copy_80 : decode b_CS_copy 80 = .ok (.iload 5, 2) := by decide +kernel
theorem d_CS_copy_82 : decode b_CS_copy 82 = .ok (.iaload, 1) := by decide +kernel
theorem d_CS_copy_83 : decode b_CS_copy 83 = .ok (.invokevirtual 83, 3) := by decide +kernel
theorem d_CS_copy_86 : decode b_CS_copy 86 = .ok (.iinc 5 1, 3) := by decide +kernel
theorem d_CS_copy_89 : decode b_CS_copy 89 = .ok (.goto (-55), 3) := by decide +kernel
theorem d_CS_copy_92 : decode b_CS_copy 92 = .ok (.aload 4, 2) := by decide +kernel
theorem d_CS_copy_94 : decode b_CS_copy 94 = .ok (.getfield 63, 3) := by decide +kernel
theorem d_CS_copy_97 : decode b_CS_copy 97 = .ok (.ireturn, 1) := by decide +kernel
theorem d_FE_addAtEnd_0 : decode b_FE_addAtEnd 0 = .ok (.aload_n 0, 1) := by decide +kernel
theorem d_FE_addAtEnd_1 : decode b_FE_addAtEnd 1 = .ok (.getfield 15, 3) := by decide +kernel
theorem d_FE_addAtEnd_4 : decode b_FE_addAtEnd 4 = .ok (.iconst 3, 1) := by decide +kernel
theorem d_FE_addAtEnd_5 : decode b_FE_addAtEnd 5 = .ok (.if_icmp .ge 23, 3) := by decide +kernel
theorem d_FE_addAtEnd_8 : decode b_FE_addAtEnd 8 = .ok (.aload_n 0, 1) := by decide +kernel
theorem d_FE_addAtEnd_9 : decode b_FE_addAtEnd 9 = .ok (.getfield 9, 3) := by decide +kernel
theorem d_FE_addAtEnd_12 : decode b_FE_addAtEnd 12 = .ok (.aload_n 0, 1) := by decide +kernel
theorem d_FE_addAtEnd_13 : decode b_FE_addAtEnd 13 = .ok (.getfield 15, 3) := by decide +kernel
theorem d_FE_addAtEnd_16 : decode b_FE_addAtEnd 16 = .ok (.iload_n 1, 1) := by decide +kernel
theorem d_FE_addAtEnd_17 : decode b_FE_addAtEnd 17 = .ok (.iastore, 1) := by decide +kernel
theorem d_FE_addAtEnd_18 : decode b_FE_addAtEnd 18 = .ok (.aload_n 0, 1) := by decide +kernel
theorem d_FE_addAtEnd_19 : decode b_FE_addAtEnd 19 = .ok (.dup, 1) := by decide +kernel
theorem d_FE_addAtEnd_20 : decode b_FE_addAtEnd 20 = .ok (.getfield 15, 3) := by decide +kernel
theorem d_FE_addAtEnd_23 : decode b_FE_addAtEnd 23 = .ok (.iconst 1, 1) := by decide +kernel
theorem d_FE_addAtEnd_24 : decode b_FE_addAtEnd 24 = .ok (.iadd, 1) := by decide +kernel
theorem d_FE_addAtEnd_25 : decode b_FE_addAtEnd 25 = .ok (.putfield 15, 3) := by decide +kernel
theorem d_FE_addAtEnd_28 : decode b_FE_addAtEnd 28 = .ok (.return_, 1) := by decide +kernel
theorem d_CS_extend_0 : decode b_CS_extend 0 = .ok (.iload_n 1, 1) := by decide +kernel
theorem d_CS_extend_1 : decode b_CS_extend 1 = .ok (.bipush 8, 2) := by decide +kernel
theorem d_CS_extend_3 : decode b_CS_extend 3 = .ok (.invokestatic 37, 3) := by decide +kernel
theorem d_CS_extend_6 : decode b_CS_extend 6 = .ok (.aload_n 0, 1) := by decide +kernel
theorem d_CS_extend_7 : decode b_CS_extend 7 = .ok (.aload_n 0, 1) := by decide +kernel
theorem d_CS_extend_8 : decode b_CS_extend 8 = .ok (.iload_n 1, 1) := by decide +kernel
theorem d_CS_extend_9 : decode b_CS_extend 9 = .ok (.invokevirtual 53, 3) := by decide +kernel
theorem d_CS_extend_12 : decode b_CS_extend 12 = .ok (.invokevirtual 87, 3) := by decide +kernel
theorem d_CS_extend_15 : decode b_CS_extend 15 = .ok (.ireturn, 1) := by decide +kernel
theorem d_CS_makeChunk_0 : decode b_CS_makeChunk 0 = .ok (.aload_n 0, 1) := by decide +kernel
theorem d_CS_makeChunk_1 : decode b_CS_makeChunk 1 = .ok (.getfield 151, 3) := by decide +kernel
theorem d_CS_makeChunk_4 : decode b_CS_makeChunk 4 = .ok (.bipush 30, 2) := by decide +kernel
theorem d_CS_makeChunk_6 : decode b_CS_makeChunk 6 = .ok (.if_icmp .ge 11, 3) := by decide +kernel
theorem d_CS_makeChunk_9 : decode b_CS_makeChunk 9 = .ok (.aload_n 1, 1) := by decide +kernel
theorem d_CS_makeChunk_10 : decode b_CS_makeChunk 10 = .ok (.getfield 63, 3) := by decide +kernel
theorem d_CS_makeChunk_13 : decode b_CS_makeChunk 13 = .ok (.iconst 3, 1) := by decide +kernel
theorem d_CS_makeChunk_14 : decode b_CS_makeChunk 14 = .ok (.if_icmp .lt 13, 3) := by decide +kernel
theorem d_CS_makeChunk_17 : decode b_CS_makeChunk 17 = .ok (.new 216, 3) := by decide +kernel
theorem d_CS_makeChunk_20 : decode b_CS_makeChunk 20 = .ok (.dup, 1) := by decide +kernel
theorem d_CS_makeChunk_21 : decode b_CS_makeChunk 21 = .ok (.ldc 229, 2) := by decide +kernel
theorem d_CS_makeChunk_23 : decode b_CS_makeChunk 23 = .ok (.invokespecial 220, 3) := by decide +kernel
theorem d_CS_makeChunk_26 : decode b_CS_makeChunk 26 = .ok (.athrow, 1) := by decide +kernel
theorem d_CS_makeChunk_27 : decode b_CS_makeChunk 27 = .ok (.aload_n 0, 1) := by decide +kernel
theorem d_CS_makeChunk_28 : decode b_CS_makeChunk 28 = .ok (.getfield 151, 3) := by decide +kernel
theorem d_CS_makeChunk_31 : decode b_CS_makeChunk 31 = .ok (.istore_n 2, 1) := by decide +kernel
theorem d_CS_makeChunk_32 : decode b_CS_makeChunk 32 = .ok (.aload_n 0, 1) := by decide +kernel
theorem d_CS_makeChunk_33 : decode b_CS_makeChunk 33 = .ok (.iload_n 2, 1) := by decide +kernel
theorem d_CS_makeChunk_34 : decode b_CS_makeChunk 34 = .ok (.iconst 3, 1) := by decide +kernel
theorem d_CS_makeChunk_35 : decode b_CS_makeChunk 35 = .ok (.invokevirtual 231, 3) := by decide +kernel
theorem d_CS_makeChunk_38 : decode b_CS_makeChunk 38 = .ok (.istore_n 3, 1) := by decide +kernel
theorem d_CS_makeChunk_39 : decode b_CS_makeChunk 39 = .ok (.iload_n 3, 1) := by decide +kernel
theorem d_CS_makeChunk_40 : decode b_CS_makeChunk 40 = .ok (.ifCond .ne 13, 3) := by decide +kernel
theorem d_CS_makeChunk_43 : decode b_CS_makeChunk 43 = .ok (.new 137, 3) := by decide +kernel
theorem d_CS_makeChunk_46 : decode b_CS_makeChunk 46 = .ok (.dup, 1) := by decide +kernel
theorem d_CS_makeChunk_47 : decode b_CS_makeChunk 47 = .ok (.ldc 234, 2) := by decide +kernel
theorem d_CS_makeChunk_49 : decode b_CS_makeChunk 49 = .ok (.invokespecial 141, 3) := by decide +kernel
theorem d_CS_makeChunk_52 : decode b_CS_makeChunk 52 = .ok (.athrow, 1) := by decide +kernel
theorem d_CS_makeChunk_53 : decode b_CS_makeChunk 53 = .ok (.aload_n 0, 1) := by decide +kernel
theorem d_CS_makeChunk_54 : decode b_CS_makeChunk 54 = .ok (.iload_n 3, 1) := by decide +kernel
theorem d_CS_makeChunk_55 : decode b_CS_makeChunk 55 = .ok (.invokevirtual 236, 3) := by decide +kernel
theorem d_CS_makeChunk_58 : decode b_CS_makeChunk 58 = .ok (.iconst 0, 1) := by decide +kernel
theorem d_CS_makeChunk_59 : decode b_CS_makeChunk 59 = .ok (.istore 4, 2) := by decide +kernel
theorem d_CS_makeChunk_61 : decode b_CS_makeChunk 61 = .ok (.iload 4, 2) := by decide +kernel
theorem d_CS_makeChunk_63 : decode b_CS_makeChunk 63 = .ok (.iconst 5, 1) := by decide +kernel
theorem d_CS_makeChunk_64 : decode b_CS_makeChunk 64 = .ok (.if_icmp .ge 29, 3) := by decide +kernel
theorem d_CS_makeChunk_67 : decode b_CS_makeChunk 67 = .ok (.iload_n 3, 1) := by decide +kernel
theorem d_CS_makeChunk_68 : decode b_CS_makeChunk 68 = .ok (.iload 4, 2) := by decide +kernel
theorem d_CS_makeChunk_70 : decode b_CS_makeChunk 70 = .ok (.invokestatic 118, 3) := by decide +kernel
theorem d_CS_makeChunk_73 : decode b_CS_makeChunk 73 = .ok (.ifCond .eq 14, 3) := by decide +kernel
theorem d_CS_makeChunk_76 : decode b_CS_makeChunk 76 = .ok (.aload_n 0, 1) := by decide +kernel
theorem d_CS_makeChunk_77 : decode b_CS_makeChunk 77 = .ok (.getfield 25, 3) := by decide +kernel
theorem d_CS_makeChunk_80 : decode b_CS_makeChunk 80 = .ok (.iload 4, 2) := by decide +kernel
theorem d_CS_makeChunk_82 : decode b_CS_makeChunk 82 = .ok (.aaload, 1) := by decide +kernel
theorem d_CS_makeChunk_83 : decode b_CS_makeChunk 83 = .ok (.iload_n 2, 1) := by decide +kernel
theorem d_CS_makeChunk_84 : decode b_CS_makeChunk 84 = .ok (.invokevirtual 239, 3) := by decide +kernel
theorem d_CS_makeChunk_87 : decode b_CS_makeChunk 87 = .ok (.iinc 4 1, 3) := by decide +kernel
theorem d_CS_makeChunk_90 : decode b_CS_makeChunk 90 = .ok (.goto (-29), 3) := by decide +kernel
theorem d_CS_makeChunk_93 : decode b_CS_makeChunk 93 = .ok (.aload_n 1, 1) := by decide +kernel
theorem d_CS_makeChunk_94 : decode b_CS_makeChunk 94 = .ok (.iload_n 2, 1) := by decide +kernel
theorem d_CS_makeChunk_95 : decode b_CS_makeChunk 95 = .ok (.invokevirtual 83, 3) := by decide +kernel
theorem d_CS_makeChunk_98 : decode b_CS_makeChunk 98 = .ok (.iload_n 2, 1) := by decide +kernel
theorem d_CS_makeChunk_99 : decode b_CS_makeChunk 99 = .ok (.ireturn, 1) := by decide +kernel
theorem d_CS_choose_0 : decode b_CS_choose 0 = .ok (.iconst 0, 1) := by decide +kernel
theorem d_CS_choose_1 : decode b_CS_choose 1 = .ok (.istore_n 3, 1) := by decide +kernel
theorem d_CS_choose_2 : decode b_CS_choose 2 = .ok (.iconst 0, 1) := by decide +kernel
theorem d_CS_choose_3 : decode b_CS_choose 3 = .ok (.istore 4, 2) := by decide +kernel
theorem d_CS_choose_5 : decode b_CS_choose 5 = .ok (.iload 4, 2) := by decide +kernel
theorem d_CS_choose_7 : decode b_CS_choose 7 = .ok (.iload_n 2, 1) := by decide +kernel
theorem d_CS_choose_8 : decode b_CS_choose 8 = .ok (.if_icmp .ge 30, 3) := by decide +kernel
theorem d_CS_choose_11 : decode b_CS_choose 11 = .ok (.aload_n 0, 1) := by decide +kernel
theorem d_CS_choose_12 : decode b_CS_choose 12 = .ok (.iload_n 1, 1) := by decide +kernel
theorem d_CS_choose_13 : decode b_CS_choose 13 = .ok (.iload_n 3, 1) := by decide +kernel
theorem d_CS_choose_14 : decode b_CS_choose 14 = .ok (.invokevirtual 164, 3) := by decide +kernel
theorem d_CS_choose_17 : decode b_CS_choose 17 = .ok (.istore 5, 2) := by decide +kernel
theorem d_CS_choose_19 : decode b_CS_choose 19 = .ok (.iload 5, 2) := by decide +kernel
theorem d_CS_choose_21 : decode b_CS_choose 21 = .ok (.iconst (-1), 1) := by decide +kernel
theorem d_CS_choose_22 : decode b_CS_choose 22 = .ok (.if_icmp .eq 10, 3) := by decide +kernel
theorem d_CS_choose_25 : decode b_CS_choose 25 = .ok (.iload_n 3, 1) := by decide +kernel
theorem d_CS_choose_26 : decode b_CS_choose 26 = .ok (.iconst 1, 1) := by decide +kernel
theorem d_CS_choose_27 : decode b_CS_choose 27 = .ok (.iload 5, 2) := by decide +kernel
theorem d_CS_choose_29 : decode b_CS_choose 29 = .ok (.ishl, 1) := by decide +kernel
theorem d_CS_choose_30 : decode b_CS_choose 30 = .ok (.ior, 1) := by decide +kernel
theorem d_CS_choose_31 : decode b_CS_choose 31 = .ok (.istore_n 3, 1) := by decide +kernel
theorem d_CS_choose_32 : decode b_CS_choose 32 = .ok (.iinc 4 1, 3) := by decide +kernel
theorem d_CS_choose_35 : decode b_CS_choose 35 = .ok (.goto (-30), 3) := by decide +kernel
theorem d_CS_choose_38 : decode b_CS_choose 38 = .ok (.iload_n 3, 1) := by decide +kernel
theorem d_CS_choose_39 : decode b_CS_choose 39 = .ok (.ireturn, 1) := by decide +kernel
theorem d_CS_lightest_0 : decode b_CS_lightest 0 = .ok (.iconst (-1), 1) := by decide +kernel
theorem d_CS_lightest_1 : decode b_CS_lightest 1 = .ok (.istore_n 3, 1) := by decide +kernel
theorem d_CS_lightest_2 : decode b_CS_lightest 2 = .ok (.iconst 0, 1) := by decide +kernel
theorem d_CS_lightest_3 : decode b_CS_lightest 3 = .ok (.istore 4, 2) := by decide +kernel
theorem d_CS_lightest_5 : decode b_CS_lightest 5 = .ok (.iload 4, 2) := by decide +kernel
theorem d_CS_lightest_7 : decode b_CS_lightest 7 = .ok (.iconst 5, 1) := by decide +kernel
theorem d_CS_lightest_8 : decode b_CS_lightest 8 = .ok (.if_icmp .ge 89, 3) := by decide +kernel
theorem d_CS_lightest_11 : decode b_CS_lightest 11 = .ok (.aload_n 0, 1) := by decide +kernel
theorem d_CS_lightest_12 : decode b_CS_lightest 12 = .ok (.getfield 25, 3) := by decide +kernel
theorem d_CS_lightest_15 : decode b_CS_lightest 15 = .ok (.iload 4, 2) := by decide +kernel
theorem d_CS_lightest_17 : decode b_CS_lightest 17 = .ok (.aaload, 1) := by decide +kernel
theorem d_CS_lightest_18 : decode b_CS_lightest 18 = .ok (.astore 5, 2) := by decide +kernel
theorem d_CS_lightest_20 : decode b_CS_lightest 20 = .ok (.aload 5, 2) := by decide +kernel
theorem d_CS_lightest_22 : decode b_CS_lightest 22 = .ok (.getfield 127, 3) := by decide +kernel
theorem d_CS_lightest_25 : decode b_CS_lightest 25 = .ok (.ifCond .eq 33, 3) := by decide +kernel
theorem d_CS_lightest_28 : decode b_CS_lightest 28 = .ok (.aload 5, 2) := by decide +kernel
theorem d_CS_lightest_30 : decode b_CS_lightest 30 = .ok (.invokevirtual 225, 3) := by decide +kernel
theorem d_CS_lightest_33 : decode b_CS_lightest 33 = .ok (.ifCond .ne 25, 3) := by decide +kernel
theorem d_CS_lightest_36 : decode b_CS_lightest 36 = .ok (.aload 5, 2) := by decide +kernel
theorem d_CS_lightest_38 : decode b_CS_lightest 38 = .ok (.iload_n 1, 1) := by decide +kernel
theorem d_CS_lightest_39 : decode b_CS_lightest 39 = .ok (.invokevirtual 154, 3) := by decide +kernel
theorem d_CS_lightest_42 : decode b_CS_lightest 42 = .ok (.ifCond .ne 16, 3) := by decide +kernel
theorem d_CS_lightest_45 : decode b_CS_lightest 45 = .ok (.iload_n 2, 1) := by decide +kernel
theorem d_CS_lightest_46 : decode b_CS_lightest 46 = .ok (.iload 4, 2) := by decide +kernel
theorem d_CS_lightest_48 : decode b_CS_lightest 48 = .ok (.invokestatic 118, 3) := by decide +kernel
theorem d_CS_lightest_51 : decode b_CS_lightest 51 = .ok (.ifCond .ne 7, 3) := by decide +kernel
theorem d_CS_lightest_54 : decode b_CS_lightest 54 = .ok (.iconst 1, 1) := by decide +kernel
theorem d_CS_lightest_55 : decode b_CS_lightest 55 = .ok (.goto 4, 3) := by decide +kernel
theorem d_CS_lightest_58 : decode b_CS_lightest 58 = .ok (.iconst 0, 1) := by decide +kernel
theorem d_CS_lightest_59 : decode b_CS_lightest 59 = .ok (.istore 6, 2) := by decide +kernel
theorem d_CS_lightest_61 : decode b_CS_lightest 61 = .ok (.iload 6, 2) := by decide +kernel
theorem d_CS_lightest_63 : decode b_CS_lightest 63 = .ok (.ifCond .eq 28, 3) := by decide +kernel
theorem d_CS_lightest_66 : decode b_CS_lightest 66 = .ok (.iload_n 3, 1) := by decide +kernel
theorem d_CS_lightest_67 : decode b_CS_lightest 67 = .ok (.iconst (-1), 1) := by decide +kernel
theorem d_CS_lightest_68 : decode b_CS_lightest 68 = .ok (.if_icmp .eq 20, 3) := by decide +kernel
theorem d_CS_lightest_71 : decode b_CS_lightest 71 = .ok (.aload 5, 2) := by decide +kernel
theorem d_CS_lightest_73 : decode b_CS_lightest 73 = .ok (.getfield 146, 3) := by decide +kernel
theorem d_CS_lightest_76 : decode b_CS_lightest 76 = .ok (.aload_n 0, 1) := by decide +kernel
theorem d_CS_lightest_77 : decode b_CS_lightest 77 = .ok (.getfield 25, 3) := by decide +kernel
theorem d_CS_lightest_80 : decode b_CS_lightest 80 = .ok (.iload_n 3, 1) := by decide +kernel
theorem d_CS_lightest_81 : decode b_CS_lightest 81 = .ok (.aaload, 1) := by decide +kernel
theorem d_CS_lightest_82 : decode b_CS_lightest 82 = .ok (.getfield 146, 3) := by decide +kernel
theorem d_CS_lightest_85 : decode b_CS_lightest 85 = .ok (.if_icmp .ge 6, 3) := by decide +kernel
theorem d_CS_lightest_88 : decode b_CS_lightest 88 = .ok (.iload 4, 2) := by decide +kernel
theorem d_CS_lightest_90 : decode b_CS_lightest 90 = .ok (.istore_n 3, 1) := by decide +kernel
theorem d_CS_lightest_91 : decode b_CS_lightest 91 = .ok (.iinc 4 1, 3) := by decide +kernel
theorem d_CS_lightest_94 : decode b_CS_lightest 94 = .ok (.goto (-89), 3) := by decide +kernel
theorem d_CS_lightest_97 : decode b_CS_lightest 97 = .ok (.iload_n 3, 1) := by decide +kernel
theorem d_CS_lightest_98 : decode b_CS_lightest 98 = .ok (.ireturn, 1) := by decide +kernel
theorem d_SV_isFull_0 : decode b_SV_isFull 0 = .ok (.aload_n 0, 1) := by decide +kernel
theorem d_SV_isFull_1 : decode b_SV_isFull 1 = .ok (.getfield 25, 3) := by decide +kernel
theorem d_SV_isFull_4 : decode b_SV_isFull 4 = .ok (.bipush 12, 2) := by decide +kernel
theorem d_SV_isFull_6 : decode b_SV_isFull 6 = .ok (.if_icmp .lt 7, 3) := by decide +kernel
theorem d_SV_isFull_9 : decode b_SV_isFull 9 = .ok (.iconst 1, 1) := by decide +kernel
theorem d_SV_isFull_10 : decode b_SV_isFull 10 = .ok (.goto 4, 3) := by decide +kernel
theorem d_SV_isFull_13 : decode b_SV_isFull 13 = .ok (.iconst 0, 1) := by decide +kernel
theorem d_SV_isFull_14 : decode b_SV_isFull 14 = .ok (.ireturn, 1) := by decide +kernel
theorem d_SV_has_0 : decode b_SV_has 0 = .ok (.aload_n 0, 1) := by decide +kernel
theorem d_SV_has_1 : decode b_SV_has 1 = .ok (.getfield 9, 3) := by decide +kernel
theorem d_SV_has_4 : decode b_SV_has 4 = .ok (.iload_n 1, 1) := by decide +kernel
theorem d_SV_has_5 : decode b_SV_has 5 = .ok (.iaload, 1) := by decide +kernel
theorem d_SV_has_6 : decode b_SV_has 6 = .ok (.ifCond .le 7, 3) := by decide +kernel
theorem d_SV_has_9 : decode b_SV_has 9 = .ok (.iconst 1, 1) := by decide +kernel
theorem d_SV_has_10 : decode b_SV_has 10 = .ok (.goto 4, 3) := by decide +kernel
theorem d_SV_has_13 : decode b_SV_has 13 = .ok (.iconst 0, 1) := by decide +kernel
theorem d_SV_has_14 : decode b_SV_has 14 = .ok (.ireturn, 1) := by decide +kernel
theorem d_CS_isIn_0 : decode b_CS_isIn 0 = .ok (.iload_n 0, 1) := by decide +kernel
theorem d_CS_isIn_1 : decode b_CS_isIn 1 = .ok (.iconst 1, 1) := by decide +kernel
theorem d_CS_isIn_2 : decode b_CS_isIn 2 = .ok (.iload_n 1, 1) := by decide +kernel
theorem d_CS_isIn_3 : decode b_CS_isIn 3 = .ok (.ishl, 1) := by decide +kernel
theorem d_CS_isIn_4 : decode b_CS_isIn 4 = .ok (.iand, 1) := by decide +kernel
theorem d_CS_isIn_5 : decode b_CS_isIn 5 = .ok (.ifCond .eq 7, 3) := by decide +kernel
theorem d_CS_isIn_8 : decode b_CS_isIn 8 = .ok (.iconst 1, 1) := by decide +kernel
theorem d_CS_isIn_9 : decode b_CS_isIn 9 = .ok (.goto 4, 3) := by decide +kernel
theorem d_CS_isIn_12 : decode b_CS_isIn 12 = .ok (.iconst 0, 1) := by decide +kernel
theorem d_CS_isIn_13 : decode b_CS_isIn 13 = .ok (.ireturn, 1) := by decide +kernel
theorem d_CS_startChunk_0 : decode b_CS_startChunk 0 = .ok (.aload_n 0, 1) := by decide +kernel
theorem d_CS_startChunk_1 : decode b_CS_startChunk 1 = .ok (.getfield 18, 3) := by decide +kernel
theorem d_CS_startChunk_4 : decode b_CS_startChunk 4 = .ok (.aload_n 0, 1) := by decide +kernel
theorem d_CS_startChunk_5 : decode b_CS_startChunk 5 = .ok (.getfield 151, 3) := by decide +kernel
theorem d_CS_startChunk_8 : decode b_CS_startChunk 8 = .ok (.aaload, 1) := by decide +kernel
theorem d_CS_startChunk_9 : decode b_CS_startChunk 9 = .ok (.astore_n 2, 1) := by decide +kernel
theorem d_CS_startChunk_10 : decode b_CS_startChunk 10 = .ok (.aload_n 2, 1) := by decide +kernel
theorem d_CS_startChunk_11 : decode b_CS_startChunk 11 = .ok (.iconst 1, 1) := by decide +kernel
theorem d_CS_startChunk_12 : decode b_CS_startChunk 12 = .ok (.putfield 110, 3) := by decide +kernel
theorem d_CS_startChunk_15 : decode b_CS_startChunk 15 = .ok (.aload_n 2, 1) := by decide +kernel
theorem d_CS_startChunk_16 : decode b_CS_startChunk 16 = .ok (.iconst 1, 1) := by decide +kernel
theorem d_CS_startChunk_17 : decode b_CS_startChunk 17 = .ok (.putfield 80, 3) := by decide +kernel
theorem d_CS_startChunk_20 : decode b_CS_startChunk 20 = .ok (.aload_n 2, 1) := by decide +kernel
theorem d_CS_startChunk_21 : decode b_CS_startChunk 21 = .ok (.iload_n 1, 1) := by decide +kernel
theorem d_CS_startChunk_22 : decode b_CS_startChunk 22 = .ok (.putfield 179, 3) := by decide +kernel
theorem d_CS_startChunk_25 : decode b_CS_startChunk 25 = .ok (.aload_n 0, 1) := by decide +kernel
theorem d_CS_startChunk_26 : decode b_CS_startChunk 26 = .ok (.dup, 1) := by decide +kernel
theorem d_CS_startChunk_27 : decode b_CS_startChunk 27 = .ok (.getfield 151, 3) := by decide +kernel
theorem d_CS_startChunk_30 : decode b_CS_startChunk 30 = .ok (.iconst 1, 1) := by decide +kernel
theorem d_CS_startChunk_31 : decode b_CS_startChunk 31 = .ok (.iadd, 1) := by decide +kernel
theorem d_CS_startChunk_32 : decode b_CS_startChunk 32 = .ok (.putfield 151, 3) := by decide +kernel
theorem d_CS_startChunk_35 : decode b_CS_startChunk 35 = .ok (.return_, 1) := by decide +kernel
theorem d_SV_addEmpty_0 : decode b_SV_addEmpty 0 = .ok (.aload_n 0, 1) := by decide +kernel
theorem d_SV_addEmpty_1 : decode b_SV_addEmpty 1 = .ok (.getfield 9, 3) := by decide +kernel
theorem d_SV_addEmpty_4 : decode b_SV_addEmpty 4 = .ok (.iload_n 1, 1) := by decide +kernel
theorem d_SV_addEmpty_5 : decode b_SV_addEmpty 5 = .ok (.iconst 1, 1) := by decide +kernel
theorem d_SV_addEmpty_6 : decode b_SV_addEmpty 6 = .ok (.iastore, 1) := by decide +kernel
theorem d_SV_addEmpty_7 : decode b_SV_addEmpty 7 = .ok (.aload_n 0, 1) := by decide +kernel
theorem d_SV_addEmpty_8 : decode b_SV_addEmpty 8 = .ok (.dup, 1) := by decide +kernel
theorem d_SV_addEmpty_9 : decode b_SV_addEmpty 9 = .ok (.getfield 25, 3) := by decide +kernel
theorem d_SV_addEmpty_12 : decode b_SV_addEmpty 12 = .ok (.iconst 1, 1) := by decide +kernel
theorem d_SV_addEmpty_13 : decode b_SV_addEmpty 13 = .ok (.iadd, 1) := by decide +kernel
theorem d_SV_addEmpty_14 : decode b_SV_addEmpty 14 = .ok (.putfield 25, 3) := by decide +kernel
theorem d_SV_addEmpty_17 : decode b_SV_addEmpty 17 = .ok (.return_, 1) := by decide +kernel
theorem d_CS_locate_0 : decode b_CS_locate 0 = .ok (.iload_n 1, 1) := by decide +kernel
theorem d_CS_locate_1 : decode b_CS_locate 1 = .ok (.iconst 3, 1) := by decide +kernel
theorem d_CS_locate_2 : decode b_CS_locate 2 = .ok (.invokestatic 37, 3) := by decide +kernel
theorem d_CS_locate_5 : decode b_CS_locate 5 = .ok (.iload_n 2, 1) := by decide +kernel
theorem d_CS_locate_6 : decode b_CS_locate 6 = .ok (.bipush 8, 2) := by decide +kernel
theorem d_CS_locate_8 : decode b_CS_locate 8 = .ok (.invokestatic 37, 3) := by decide +kernel
theorem d_CS_locate_11 : decode b_CS_locate 11 = .ok (.iload_n 3, 1) := by decide +kernel
theorem d_CS_locate_12 : decode b_CS_locate 12 = .ok (.iconst 3, 1) := by decide +kernel
theorem d_CS_locate_13 : decode b_CS_locate 13 = .ok (.invokestatic 37, 3) := by decide +kernel
theorem d_CS_locate_16 : decode b_CS_locate 16 = .ok (.aload_n 0, 1) := by decide +kernel
theorem d_CS_locate_17 : decode b_CS_locate 17 = .ok (.iload_n 1, 1) := by decide +kernel
theorem d_CS_locate_18 : decode b_CS_locate 18 = .ok (.iload_n 2, 1) := by decide +kernel
theorem d_CS_locate_19 : decode b_CS_locate 19 = .ok (.iload_n 3, 1) := by decide +kernel
theorem d_CS_locate_20 : decode b_CS_locate 20 = .ok (.invokevirtual 91, 3) := by decide +kernel
theorem d_CS_locate_23 : decode b_CS_locate 23 = .ok (.getfield 95, 3) := by decide +kernel
theorem d_CS_locate_26 : decode b_CS_locate 26 = .ok (.ireturn, 1) := by decide +kernel
theorem d_CS_find_0 : decode b_CS_find 0 = .ok (.aload_n 0, 1) := by decide +kernel
theorem d_CS_find_1 : decode b_CS_find 1 = .ok (.iload_n 2, 1) := by decide +kernel
theorem d_CS_find_2 : decode b_CS_find 2 = .ok (.invokevirtual 53, 3) := by decide +kernel
theorem d_CS_find_5 : decode b_CS_find 5 = .ok (.astore 4, 2) := by decide +kernel
theorem d_CS_find_7 : decode b_CS_find 7 = .ok (.aload 4, 2) := by decide +kernel
theorem d_CS_find_9 : decode b_CS_find 9 = .ok (.iload_n 3, 1) := by decide +kernel
theorem d_CS_find_10 : decode b_CS_find 10 = .ok (.invokestatic 98, 3) := by decide +kernel
theorem d_CS_find_13 : decode b_CS_find 13 = .ok (.aload_n 0, 1) := by decide +kernel
theorem d_CS_find_14 : decode b_CS_find 14 = .ok (.getfield 32, 3) := by decide +kernel
theorem d_CS_find_17 : decode b_CS_find 17 = .ok (.iload_n 1, 1) := by decide +kernel
theorem d_CS_find_18 : decode b_CS_find 18 = .ok (.bipush 8, 2) := by decide +kernel
theorem d_CS_find_20 : decode b_CS_find 20 = .ok (.imul, 1) := by decide +kernel
theorem d_CS_find_21 : decode b_CS_find 21 = .ok (.iload_n 2, 1) := by decide +kernel
theorem d_CS_find_22 : decode b_CS_find 22 = .ok (.iadd, 1) := by decide +kernel
theorem d_CS_find_23 : decode b_CS_find 23 = .ok (.iconst 3, 1) := by decide +kernel
theorem d_CS_find_24 : decode b_CS_find 24 = .ok (.imul, 1) := by decide +kernel
theorem d_CS_find_25 : decode b_CS_find 25 = .ok (.iload_n 3, 1) := by decide +kernel
theorem d_CS_find_26 : decode b_CS_find 26 = .ok (.iadd, 1) := by decide +kernel
theorem d_CS_find_27 : decode b_CS_find 27 = .ok (.aaload, 1) := by decide +kernel
theorem d_CS_find_28 : decode b_CS_find 28 = .ok (.astore 5, 2) := by decide +kernel
theorem d_CS_find_30 : decode b_CS_find 30 = .ok (.aload 5, 2) := by decide +kernel
theorem d_CS_find_32 : decode b_CS_find 32 = .ok (.getfield 242, 3) := by decide +kernel
theorem d_CS_find_35 : decode b_CS_find 35 = .ok (.aload_n 0, 1) := by decide +kernel
theorem d_CS_find_36 : decode b_CS_find 36 = .ok (.getfield 56, 3) := by decide +kernel
theorem d_CS_find_39 : decode b_CS_find 39 = .ok (.dcmp .l, 1) := by decide +kernel
theorem d_CS_find_40 : decode b_CS_find 40 = .ok (.ifCond .gt 62, 3) := by decide +kernel
theorem d_CS_find_43 : decode b_CS_find 43 = .ok (.aload_n 0, 1) := by decide +kernel
theorem d_CS_find_44 : decode b_CS_find 44 = .ok (.getfield 18, 3) := by decide +kernel
theorem d_CS_find_47 : decode b_CS_find 47 = .ok (.aload 4, 2) := by decide +kernel
theorem d_CS_find_49 : decode b_CS_find 49 = .ok (.getfield 73, 3) := by decide +kernel
theorem d_CS_find_52 : decode b_CS_find 52 = .ok (.iload_n 3, 1) := by decide +kernel
theorem d_CS_find_53 : decode b_CS_find 53 = .ok (.iaload, 1) := by decide +kernel
theorem d_CS_find_54 : decode b_CS_find 54 = .ok (.aaload, 1) := by decide +kernel
theorem d_CS_find_55 : decode b_CS_find 55 = .ok (.astore 6, 2) := by decide +kernel
theorem d_CS_find_57 : decode b_CS_find 57 = .ok (.aload 5, 2) := by decide +kernel
theorem d_CS_find_59 : decode b_CS_find 59 = .ok (.aload 4, 2) := by decide +kernel
theorem d_CS_find_61 : decode b_CS_find 61 = .ok (.getfield 73, 3) := by decide +kernel
theorem d_CS_find_64 : decode b_CS_find 64 = .ok (.iload_n 3, 1) := by decide +kernel
theorem d_CS_find_65 : decode b_CS_find 65 = .ok (.iaload, 1) := by decide +kernel
theorem d_CS_find_66 : decode b_CS_find 66 = .ok (.putfield 134, 3) := by decide +kernel
theorem d_CS_find_69 : decode b_CS_find 69 = .ok (.aload 5, 2) := by decide +kernel
theorem d_CS_find_71 : decode b_CS_find 71 = .ok (.aload 6, 2) := by decide +kernel
theorem d_CS_find_73 : decode b_CS_find 73 = .ok (.getfield 110, 3) := by decide +kernel
theorem d_CS_find_76 : decode b_CS_find 76 = .ok (.putfield 95, 3) := by decide +kernel
theorem d_CS_find_79 : decode b_CS_find 79 = .ok (.aload 5, 2) := by decide +kernel
theorem d_CS_find_81 : decode b_CS_find 81 = .ok (.aload 6, 2) := by decide +kernel
theorem d_CS_find_83 : decode b_CS_find 83 = .ok (.getfield 179, 3) := by decide +kernel
theorem d_CS_find_86 : decode b_CS_find 86 = .ok (.putfield 115, 3) := by decide +kernel
theorem d_CS_find_89 : decode b_CS_find 89 = .ok (.aload 5, 2) := by decide +kernel
theorem d_CS_find_91 : decode b_CS_find 91 = .ok (.aload_n 0, 1) := by decide +kernel
theorem d_CS_find_92 : decode b_CS_find 92 = .ok (.getfield 56, 3) := by decide +kernel
theorem d_CS_find_95 : decode b_CS_find 95 = .ok (.ldc2_w 245, 3) := by decide +kernel
theorem d_CS_find_98 : decode b_CS_find 98 = .ok (.dadd, 1) := by decide +kernel
theorem d_CS_find_99 : decode b_CS_find 99 = .ok (.putfield 242, 3) := by decide +kernel
theorem d_CS_find_102 : decode b_CS_find 102 = .ok (.aload 5, 2) := by decide +kernel
theorem d_CS_find_104 : decode b_CS_find 104 = .ok (.areturn, 1) := by decide +kernel
theorem d_CS_checkPlace_0 : decode b_CS_checkPlace 0 = .ok (.iload_n 1, 1) := by decide +kernel
theorem d_CS_checkPlace_1 : decode b_CS_checkPlace 1 = .ok (.aload_n 0, 1) := by decide +kernel
theorem d_CS_checkPlace_2 : decode b_CS_checkPlace 2 = .ok (.getfield 63, 3) := by decide +kernel
theorem d_CS_checkPlace_5 : decode b_CS_checkPlace 5 = .ok (.if_icmp .lt 13, 3) := by decide +kernel
theorem d_CS_checkPlace_8 : decode b_CS_checkPlace 8 = .ok (.new 216, 3) := by decide +kernel
theorem d_CS_checkPlace_11 : decode b_CS_checkPlace 11 = .ok (.dup, 1) := by decide +kernel
theorem d_CS_checkPlace_12 : decode b_CS_checkPlace 12 = .ok (.ldc 218, 2) := by decide +kernel
theorem d_CS_checkPlace_14 : decode b_CS_checkPlace 14 = .ok (.invokespecial 220, 3) := by decide +kernel
theorem d_CS_checkPlace_17 : decode b_CS_checkPlace 17 = .ok (.athrow, 1) := by decide +kernel
theorem d_CS_checkPlace_18 : decode b_CS_checkPlace 18 = .ok (.return_, 1) := by decide +kernel
theorem d_CS_write_0 : decode b_CS_write 0 = .ok (.iload_n 1, 1) := by decide +kernel
theorem d_CS_write_1 : decode b_CS_write 1 = .ok (.bipush 8, 2) := by decide +kernel
theorem d_CS_write_3 : decode b_CS_write 3 = .ok (.invokestatic 37, 3) := by decide +kernel
theorem d_CS_write_6 : decode b_CS_write 6 = .ok (.iload_n 2, 1) := by decide +kernel
theorem d_CS_write_7 : decode b_CS_write 7 = .ok (.iconst 3, 1) := by decide +kernel
theorem d_CS_write_8 : decode b_CS_write 8 = .ok (.invokestatic 37, 3) := by decide +kernel
theorem d_CS_write_11 : decode b_CS_write 11 = .ok (.iload_n 3, 1) := by decide +kernel
theorem d_CS_write_12 : decode b_CS_write 12 = .ok (.iconst 4, 1) := by decide +kernel
theorem d_CS_write_13 : decode b_CS_write 13 = .ok (.invokestatic 37, 3) := by decide +kernel
theorem d_CS_write_16 : decode b_CS_write 16 = .ok (.aload_n 0, 1) := by decide +kernel
theorem d_CS_write_17 : decode b_CS_write 17 = .ok (.iload_n 1, 1) := by decide +kernel
theorem d_CS_write_18 : decode b_CS_write 18 = .ok (.invokevirtual 53, 3) := by decide +kernel
theorem d_CS_write_21 : decode b_CS_write 21 = .ok (.astore 5, 2) := by decide +kernel
theorem d_CS_write_23 : decode b_CS_write 23 = .ok (.aload 5, 2) := by decide +kernel
theorem d_CS_write_25 : decode b_CS_write 25 = .ok (.iload_n 2, 1) := by decide +kernel
theorem d_CS_write_26 : decode b_CS_write 26 = .ok (.invokestatic 98, 3) := by decide +kernel
theorem d_CS_write_29 : decode b_CS_write 29 = .ok (.aload_n 0, 1) := by decide +kernel
theorem d_CS_write_30 : decode b_CS_write 30 = .ok (.aload 5, 2) := by decide +kernel
theorem d_CS_write_32 : decode b_CS_write 32 = .ok (.iload_n 2, 1) := by decide +kernel
theorem d_CS_write_33 : decode b_CS_write 33 = .ok (.invokevirtual 102, 3) := by decide +kernel
theorem d_CS_write_36 : decode b_CS_write 36 = .ok (.istore 6, 2) := by decide +kernel
theorem d_CS_write_38 : decode b_CS_write 38 = .ok (.aload_n 0, 1) := by decide +kernel
theorem d_CS_write_39 : decode b_CS_write 39 = .ok (.iload 6, 2) := by decide +kernel
theorem d_CS_write_41 : decode b_CS_write 41 = .ok (.iload_n 3, 1) := by decide +kernel
theorem d_CS_write_42 : decode b_CS_write 42 = .ok (.iload 4, 2) := by decide +kernel
theorem d_CS_write_44 : decode b_CS_write 44 = .ok (.invokevirtual 106, 3) := by decide +kernel
theorem d_CS_write_47 : decode b_CS_write 47 = .ok (.aload_n 0, 1) := by decide +kernel
theorem d_CS_write_48 : decode b_CS_write 48 = .ok (.getfield 18, 3) := by decide +kernel
theorem d_CS_write_51 : decode b_CS_write 51 = .ok (.iload 6, 2) := by decide +kernel
theorem d_CS_write_53 : decode b_CS_write 53 = .ok (.aaload, 1) := by decide +kernel
theorem d_CS_write_54 : decode b_CS_write 54 = .ok (.getfield 110, 3) := by decide +kernel
theorem d_CS_write_57 : decode b_CS_write 57 = .ok (.ireturn, 1) := by decide +kernel
theorem d_CS_lease_0 : decode b_CS_lease 0 = .ok (.aload_n 1, 1) := by decide +kernel
theorem d_CS_lease_1 : decode b_CS_lease 1 = .ok (.getfield 73, 3) := by decide +kernel
theorem d_CS_lease_4 : decode b_CS_lease 4 = .ok (.iload_n 2, 1) := by decide +kernel
theorem d_CS_lease_5 : decode b_CS_lease 5 = .ok (.iaload, 1) := by decide +kernel
theorem d_CS_lease_6 : decode b_CS_lease 6 = .ok (.istore_n 3, 1) := by decide +kernel
theorem d_CS_lease_7 : decode b_CS_lease 7 = .ok (.aload_n 0, 1) := by decide +kernel
theorem d_CS_lease_8 : decode b_CS_lease 8 = .ok (.iload_n 3, 1) := by decide +kernel
theorem d_CS_lease_9 : decode b_CS_lease 9 = .ok (.invokevirtual 167, 3) := by decide +kernel
theorem d_CS_lease_12 : decode b_CS_lease 12 = .ok (.istore 4, 2) := by decide +kernel
theorem d_CS_lease_14 : decode b_CS_lease 14 = .ok (.aload_n 0, 1) := by decide +kernel
theorem d_CS_lease_15 : decode b_CS_lease 15 = .ok (.aload_n 0, 1) := by decide +kernel
theorem d_CS_lease_16 : decode b_CS_lease 16 = .ok (.getfield 18, 3) := by decide +kernel
theorem d_CS_lease_19 : decode b_CS_lease 19 = .ok (.iload_n 3, 1) := by decide +kernel
theorem d_CS_lease_20 : decode b_CS_lease 20 = .ok (.aaload, 1) := by decide +kernel
theorem d_CS_lease_21 : decode b_CS_lease 21 = .ok (.invokevirtual 210, 3) := by decide +kernel
theorem d_CS_lease_24 : decode b_CS_lease 24 = .ok (.ifCond .eq 19, 3) := by decide +kernel
theorem d_CS_lease_27 : decode b_CS_lease 27 = .ok (.iload 4, 2) := by decide +kernel
theorem d_CS_lease_29 : decode b_CS_lease 29 = .ok (.aload_n 0, 1) := by decide +kernel
theorem d_CS_lease_30 : decode b_CS_lease 30 = .ok (.getfield 18, 3) := by decide +kernel
theorem d_CS_lease_33 : decode b_CS_lease 33 = .ok (.iload_n 3, 1) := by decide +kernel
theorem d_CS_lease_34 : decode b_CS_lease 34 = .ok (.aaload, 1) := by decide +kernel
theorem d_CS_lease_35 : decode b_CS_lease 35 = .ok (.getfield 179, 3) := by decide +kernel
theorem d_CS_lease_38 : decode b_CS_lease 38 = .ok (.if_icmp .ne 5, 3) := by decide +kernel
theorem d_CS_lease_41 : decode b_CS_lease 41 = .ok (.iload_n 3, 1) := by decide +kernel
theorem d_CS_lease_42 : decode b_CS_lease 42 = .ok (.ireturn, 1) := by decide +kernel
theorem d_CS_lease_43 : decode b_CS_lease 43 = .ok (.iload 4, 2) := by decide +kernel
theorem d_CS_lease_45 : decode b_CS_lease 45 = .ok (.ifCond .ne 13, 3) := by decide +kernel
theorem d_CS_lease_48 : decode b_CS_lease 48 = .ok (.new 137, 3) := by decide +kernel
theorem d_CS_lease_51 : decode b_CS_lease 51 = .ok (.dup, 1) := by decide +kernel
theorem d_CS_lease_52 : decode b_CS_lease 52 = .ok (.ldc 247, 2) := by decide +kernel
theorem d_CS_lease_54 : decode b_CS_lease 54 = .ok (.invokespecial 141, 3) := by decide +kernel
theorem d_CS_lease_57 : decode b_CS_lease 57 = .ok (.athrow, 1) := by decide +kernel
theorem d_CS_lease_58 : decode b_CS_lease 58 = .ok (.aload_n 0, 1) := by decide +kernel
theorem d_CS_lease_59 : decode b_CS_lease 59 = .ok (.getfield 18, 3) := by decide +kernel
theorem d_CS_lease_62 : decode b_CS_lease 62 = .ok (.iload_n 3, 1) := by decide +kernel
theorem d_CS_lease_63 : decode b_CS_lease 63 = .ok (.aaload, 1) := by decide +kernel
theorem d_CS_lease_64 : decode b_CS_lease 64 = .ok (.getfield 80, 3) := by decide +kernel
theorem d_CS_lease_67 : decode b_CS_lease 67 = .ok (.iconst 2, 1) := by decide +kernel
theorem d_CS_lease_68 : decode b_CS_lease 68 = .ok (.if_icmp .lt 15, 3) := by decide +kernel
theorem d_CS_lease_71 : decode b_CS_lease 71 = .ok (.aload_n 0, 1) := by decide +kernel
theorem d_CS_lease_72 : decode b_CS_lease 72 = .ok (.aload_n 1, 1) := by decide +kernel
theorem d_CS_lease_73 : decode b_CS_lease 73 = .ok (.iload_n 2, 1) := by decide +kernel
theorem d_CS_lease_74 : decode b_CS_lease 74 = .ok (.iload 4, 2) := by decide +kernel
theorem d_CS_lease_76 : decode b_CS_lease 76 = .ok (.invokevirtual 249, 3) := by decide +kernel
theorem d_CS_lease_79 : decode b_CS_lease 79 = .ok (.istore_n 3, 1) := by decide +kernel
theorem d_CS_lease_80 : decode b_CS_lease 80 = .ok (.goto 10, 3) := by decide +kernel
theorem d_CS_lease_83 : decode b_CS_lease 83 = .ok (.aload_n 0, 1) := by decide +kernel
theorem d_CS_lease_84 : decode b_CS_lease 84 = .ok (.iload_n 3, 1) := by decide +kernel
theorem d_CS_lease_85 : decode b_CS_lease 85 = .ok (.iload 4, 2) := by decide +kernel
theorem d_CS_lease_87 : decode b_CS_lease 87 = .ok (.invokevirtual 253, 3) := by decide +kernel
theorem d_CS_lease_90 : decode b_CS_lease 90 = .ok (.aload_n 0, 1) := by decide +kernel
theorem d_CS_lease_91 : decode b_CS_lease 91 = .ok (.getfield 18, 3) := by decide +kernel
theorem d_CS_lease_94 : decode b_CS_lease 94 = .ok (.iload_n 3, 1) := by decide +kernel
theorem d_CS_lease_95 : decode b_CS_lease 95 = .ok (.aaload, 1) := by decide +kernel
theorem d_CS_lease_96 : decode b_CS_lease 96 = .ok (.aload_n 0, 1) := by decide +kernel
theorem d_CS_lease_97 : decode b_CS_lease 97 = .ok (.getfield 56, 3) := by decide +kernel
theorem d_CS_lease_100 : decode b_CS_lease 100 = .ok (.ldc2_w 256, 3) := by decide +kernel
theorem d_CS_lease_103 : decode b_CS_lease 103 = .ok (.dadd, 1) := by decide +kernel
theorem d_CS_lease_104 : decode b_CS_lease 104 = .ok (.putfield 77, 3) := by decide +kernel
theorem d_CS_lease_107 : decode b_CS_lease 107 = .ok (.iload_n 3, 1) := by decide +kernel
theorem d_CS_lease_108 : decode b_CS_lease 108 = .ok (.ireturn, 1) := by decide +kernel
theorem d_CS_liveHolders_0 : decode b_CS_liveHolders 0 = .ok (.iconst 0, 1) := by decide +kernel
theorem d_CS_liveHolders_1 : decode b_CS_liveHolders 1 = .ok (.istore_n 2, 1) := by decide +kernel
theorem d_CS_liveHolders_2 : decode b_CS_liveHolders 2 = .ok (.iconst 0, 1) := by decide +kernel
theorem d_CS_liveHolders_3 : decode b_CS_liveHolders 3 = .ok (.istore_n 3, 1) := by decide +kernel
theorem d_CS_liveHolders_4 : decode b_CS_liveHolders 4 = .ok (.iload_n 3, 1) := by decide +kernel
theorem d_CS_liveHolders_5 : decode b_CS_liveHolders 5 = .ok (.iconst 5, 1) := by decide +kernel
theorem d_CS_liveHolders_6 : decode b_CS_liveHolders 6 = .ok (.if_icmp .ge 43, 3) := by decide +kernel
theorem d_CS_liveHolders_9 : decode b_CS_liveHolders 9 = .ok (.aload_n 0, 1) := by decide +kernel
theorem d_CS_liveHolders_10 : decode b_CS_liveHolders 10 = .ok (.getfield 25, 3) := by decide +kernel
theorem d_CS_liveHolders_13 : decode b_CS_liveHolders 13 = .ok (.iload_n 3, 1) := by decide +kernel
theorem d_CS_liveHolders_14 : decode b_CS_liveHolders 14 = .ok (.aaload, 1) := by decide +kernel
theorem d_CS_liveHolders_15 : decode b_CS_liveHolders 15 = .ok (.getfield 127, 3) := by decide +kernel
theorem d_CS_liveHolders_18 : decode b_CS_liveHolders 18 = .ok (.ifCond .eq 25, 3) := by decide +kernel
theorem d_CS_liveHolders_21 : decode b_CS_liveHolders 21 = .ok (.aload_n 0, 1) := by decide +kernel
theorem d_CS_liveHolders_22 : decode b_CS_liveHolders 22 = .ok (.getfield 18, 3) := by decide +kernel
theorem d_CS_liveHolders_25 : decode b_CS_liveHolders 25 = .ok (.iload_n 1, 1) := by decide +kernel
theorem d_CS_liveHolders_26 : decode b_CS_liveHolders 26 = .ok (.aaload, 1) := by decide +kernel
theorem d_CS_liveHolders_27 : decode b_CS_liveHolders 27 = .ok (.getfield 179, 3) := by decide +kernel
theorem d_CS_liveHolders_30 : decode b_CS_liveHolders 30 = .ok (.iload_n 3, 1) := by decide +kernel
theorem d_CS_liveHolders_31 : decode b_CS_liveHolders 31 = .ok (.invokestatic 118, 3) := by decide +kernel
theorem d_CS_liveHolders_34 : decode b_CS_liveHolders 34 = .ok (.ifCond .eq 9, 3) := by decide +kernel
theorem d_CS_liveHolders_37 : decode b_CS_liveHolders 37 = .ok (.iload_n 2, 1) := by decide +kernel
theorem d_CS_liveHolders_38 : decode b_CS_liveHolders 38 = .ok (.iconst 1, 1) := by decide +kernel
theorem d_CS_liveHolders_39 : decode b_CS_liveHolders 39 = .ok (.iload_n 3, 1) := by decide +kernel
theorem d_CS_liveHolders_40 : decode b_CS_liveHolders 40 = .ok (.ishl, 1) := by decide +kernel
theorem d_CS_liveHolders_41 : decode b_CS_liveHolders 41 = .ok (.ior, 1) := by decide +kernel
theorem d_CS_liveHolders_42 : decode b_CS_liveHolders 42 = .ok (.istore_n 2, 1) := by decide +kernel
theorem d_CS_liveHolders_43 : decode b_CS_liveHolders 43 = .ok (.iinc 3 1, 3) := by decide +kernel
theorem d_CS_liveHolders_46 : decode b_CS_liveHolders 46 = .ok (.goto (-42), 3) := by decide +kernel
theorem d_CS_liveHolders_49 : decode b_CS_liveHolders 49 = .ok (.iload_n 2, 1) := by decide +kernel
theorem d_CS_liveHolders_50 : decode b_CS_liveHolders 50 = .ok (.ireturn, 1) := by decide +kernel
theorem d_CS_isLeased_0 : decode b_CS_isLeased 0 = .ok (.aload_n 1, 1) := by decide +kernel
theorem d_CS_isLeased_1 : decode b_CS_isLeased 1 = .ok (.getfield 77, 3) := by decide +kernel
theorem d_CS_isLeased_4 : decode b_CS_isLeased 4 = .ok (.aload_n 0, 1) := by decide +kernel
theorem d_CS_isLeased_5 : decode b_CS_isLeased 5 = .ok (.getfield 56, 3) := by decide +kernel
theorem d_CS_isLeased_8 : decode b_CS_isLeased 8 = .ok (.dcmp .l, 1) := by decide +kernel
theorem d_CS_isLeased_9 : decode b_CS_isLeased 9 = .ok (.ifCond .le 7, 3) := by decide +kernel
theorem d_CS_isLeased_12 : decode b_CS_isLeased 12 = .ok (.iconst 1, 1) := by decide +kernel
theorem d_CS_isLeased_13 : decode b_CS_isLeased 13 = .ok (.goto 4, 3) := by decide +kernel
theorem d_CS_isLeased_16 : decode b_CS_isLeased 16 = .ok (.iconst 0, 1) := by decide +kernel
theorem d_CS_isLeased_17 : decode b_CS_isLeased 17 = .ok (.ireturn, 1) := by decide +kernel
theorem d_CS_splitOff_0 : decode b_CS_splitOff 0 = .ok (.aload_n 0, 1) := by decide +kernel
theorem d_CS_splitOff_1 : decode b_CS_splitOff 1 = .ok (.getfield 151, 3) := by decide +kernel
theorem d_CS_splitOff_4 : decode b_CS_splitOff 4 = .ok (.bipush 30, 2) := by decide +kernel
theorem d_CS_splitOff_6 : decode b_CS_splitOff 6 = .ok (.if_icmp .lt 14, 3) := by decide +kernel
theorem d_CS_splitOff_9 : decode b_CS_splitOff 9 = .ok (.new 216, 3) := by decide +kernel
theorem d_CS_splitOff_12 : decode b_CS_splitOff 12 = .ok (.dup, 1) := by decide +kernel
theorem d_CS_splitOff_13 : decode b_CS_splitOff 13 = .ok (.ldc_w 258, 3) := by decide +kernel
theorem d_CS_splitOff_16 : decode b_CS_splitOff 16 = .ok (.invokespecial 220, 3) := by decide +kernel
theorem d_CS_splitOff_19 : decode b_CS_splitOff 19 = .ok (.athrow, 1) := by decide +kernel
theorem d_CS_splitOff_20 : decode b_CS_splitOff 20 = .ok (.aload_n 0, 1) := by decide +kernel
theorem d_CS_splitOff_21 : decode b_CS_splitOff 21 = .ok (.iload_n 3, 1) := by decide +kernel
theorem d_CS_splitOff_22 : decode b_CS_splitOff 22 = .ok (.invokevirtual 260, 3) := by decide +kernel
theorem d_CS_splitOff_25 : decode b_CS_splitOff 25 = .ok (.ifCond .eq 14, 3) := by decide +kernel
theorem d_CS_splitOff_28 : decode b_CS_splitOff 28 = .ok (.new 122, 3) := by decide +kernel
theorem d_CS_splitOff_31 : decode b_CS_splitOff 31 = .ok (.dup, 1) := by decide +kernel
theorem d_CS_splitOff_32 : decode b_CS_splitOff 32 = .ok (.ldc_w 263, 3) := by decide +kernel
theorem d_CS_splitOff_35 : decode b_CS_splitOff 35 = .ok (.invokespecial 126, 3) := by decide +kernel
theorem d_CS_splitOff_38 : decode b_CS_splitOff 38 = .ok (.athrow, 1) := by decide +kernel
theorem d_CS_splitOff_39 : decode b_CS_splitOff 39 = .ok (.aload_n 1, 1) := by decide +kernel
theorem d_CS_splitOff_40 : decode b_CS_splitOff 40 = .ok (.getfield 73, 3) := by decide +kernel
theorem d_CS_splitOff_43 : decode b_CS_splitOff 43 = .ok (.iload_n 2, 1) := by decide +kernel
theorem d_CS_splitOff_44 : decode b_CS_splitOff 44 = .ok (.iaload, 1) := by decide +kernel
theorem d_CS_splitOff_45 : decode b_CS_splitOff 45 = .ok (.istore 4, 2) := by decide +kernel
theorem d_CS_splitOff_47 : decode b_CS_splitOff 47 = .ok (.aload_n 0, 1) := by decide +kernel
theorem d_CS_splitOff_48 : decode b_CS_splitOff 48 = .ok (.getfield 151, 3) := by decide +kernel
theorem d_CS_splitOff_51 : decode b_CS_splitOff 51 = .ok (.istore 5, 2) := by decide +kernel
theorem d_CS_splitOff_53 : decode b_CS_splitOff 53 = .ok (.aload_n 0, 1) := by decide +kernel
theorem d_CS_splitOff_54 : decode b_CS_splitOff 54 = .ok (.iload_n 3, 1) := by decide +kernel
theorem d_CS_splitOff_55 : decode b_CS_splitOff 55 = .ok (.invokevirtual 236, 3) := by decide +kernel
theorem d_CS_splitOff_58 : decode b_CS_splitOff 58 = .ok (.iconst 0, 1) := by decide +kernel
theorem d_CS_splitOff_59 : decode b_CS_splitOff 59 = .ok (.istore 6, 2) := by decide +kernel
theorem d_CS_splitOff_61 : decode b_CS_splitOff 61 = .ok (.iload 6, 2) := by decide +kernel
theorem d_CS_splitOff_63 : decode b_CS_splitOff 63 = .ok (.iconst 5, 1) := by decide +kernel
theorem d_CS_splitOff_64 : decode b_CS_splitOff 64 = .ok (.if_icmp .ge 40, 3) := by decide +kernel
theorem d_CS_splitOff_67 : decode b_CS_splitOff 67 = .ok (.iload_n 3, 1) := by decide +kernel
theorem d_CS_splitOff_68 : decode b_CS_splitOff 68 = .ok (.iload 6, 2) := by decide +kernel
theorem d_CS_splitOff_70 : decode b_CS_splitOff 70 = .ok (.invokestatic 118, 3) := by decide +kernel
theorem d_CS_splitOff_73 : decode b_CS_splitOff 73 = .ok (.ifCond .eq 25, 3) := by decide +kernel
theorem d_CS_splitOff_76 : decode b_CS_splitOff 76 = .ok (.aload_n 0, 1) := by decide +kernel
theorem d_CS_splitOff_77 : decode b_CS_splitOff 77 = .ok (.getfield 25, 3) := by decide +kernel
theorem d_CS_splitOff_80 : decode b_CS_splitOff 80 = .ok (.iload 6, 2) := by decide +kernel
theorem d_CS_splitOff_82 : decode b_CS_splitOff 82 = .ok (.aaload, 1) := by decide +kernel
theorem d_CS_splitOff_83 : decode b_CS_splitOff 83 = .ok (.iload 5, 2) := by decide +kernel
theorem d_CS_splitOff_85 : decode b_CS_splitOff 85 = .ok (.aload_n 0, 1) := by decide +kernel
theorem d_CS_splitOff_86 : decode b_CS_splitOff 86 = .ok (.getfield 25, 3) := by decide +kernel
theorem d_CS_splitOff_89 : decode b_CS_splitOff 89 = .ok (.iload 6, 2) := by decide +kernel
theorem d_CS_splitOff_91 : decode b_CS_splitOff 91 = .ok (.aaload, 1) := by decide +kernel
theorem d_CS_splitOff_92 : decode b_CS_splitOff 92 = .ok (.iload 4, 2) := by decide +kernel
theorem d_CS_splitOff_94 : decode b_CS_splitOff 94 = .ok (.iconst 1, 1) := by decide +kernel
theorem d_CS_splitOff_95 : decode b_CS_splitOff 95 = .ok (.invokevirtual 175, 3) := by decide +kernel
theorem d_CS_splitOff_98 : decode b_CS_splitOff 98 = .ok (.iinc 6 1, 3) := by decide +kernel
theorem d_CS_splitOff_101 : decode b_CS_splitOff 101 = .ok (.goto (-40), 3) := by decide +kernel
theorem d_CS_splitOff_104 : decode b_CS_splitOff 104 = .ok (.aload_n 0, 1) := by decide +kernel
theorem d_CS_splitOff_105 : decode b_CS_splitOff 105 = .ok (.getfield 18, 3) := by decide +kernel
theorem d_CS_splitOff_108 : decode b_CS_splitOff 108 = .ok (.iload 4, 2) := by decide +kernel
theorem d_CS_splitOff_110 : decode b_CS_splitOff 110 = .ok (.aaload, 1) := by decide +kernel
theorem d_CS_splitOff_111 : decode b_CS_splitOff 111 = .ok (.dup, 1) := by decide +kernel
theorem d_CS_splitOff_112 : decode b_CS_splitOff 112 = .ok (.getfield 80, 3) := by decide +kernel
theorem d_CS_splitOff_115 : decode b_CS_splitOff 115 = .ok (.iconst 1, 1) := by decide +kernel
theorem d_CS_splitOff_116 : decode b_CS_splitOff 116 = .ok (.isub, 1) := by decide +kernel
theorem d_CS_splitOff_117 : decode b_CS_splitOff 117 = .ok (.putfield 80, 3) := by decide +kernel
theorem d_CS_splitOff_120 : decode b_CS_splitOff 120 = .ok (.aload_n 1, 1) := by decide +kernel
theorem d_CS_splitOff_121 : decode b_CS_splitOff 121 = .ok (.getfield 73, 3) := by decide +kernel
theorem d_CS_splitOff_124 : decode b_CS_splitOff 124 = .ok (.iload_n 2, 1) := by decide +kernel
theorem d_CS_splitOff_125 : decode b_CS_splitOff 125 = .ok (.iload 5, 2) := by decide +kernel
theorem d_CS_splitOff_127 : decode b_CS_splitOff 127 = .ok (.iastore, 1) := by decide +kernel
theorem d_CS_splitOff_128 : decode b_CS_splitOff 128 = .ok (.iload 5, 2) := by decide +kernel
theorem d_CS_splitOff_130 : decode b_CS_splitOff 130 = .ok (.ireturn, 1) := by decide +kernel
theorem d_CS_anyFull_0 : decode b_CS_anyFull 0 = .ok (.iconst 0, 1) := by decide +kernel
theorem d_CS_anyFull_1 : decode b_CS_anyFull 1 = .ok (.istore_n 2, 1) := by decide +kernel
theorem d_CS_anyFull_2 : decode b_CS_anyFull 2 = .ok (.iload_n 2, 1) := by decide +kernel
theorem d_CS_anyFull_3 : decode b_CS_anyFull 3 = .ok (.iconst 5, 1) := by decide +kernel
theorem d_CS_anyFull_4 : decode b_CS_anyFull 4 = .ok (.if_icmp .ge 31, 3) := by decide +kernel
theorem d_CS_anyFull_7 : decode b_CS_anyFull 7 = .ok (.iload_n 1, 1) := by decide +kernel
theorem d_CS_anyFull_8 : decode b_CS_anyFull 8 = .ok (.iload_n 2, 1) := by decide +kernel
theorem d_CS_anyFull_9 : decode b_CS_anyFull 9 = .ok (.invokestatic 118, 3) := by decide +kernel
theorem d_CS_anyFull_12 : decode b_CS_anyFull 12 = .ok (.ifCond .eq 17, 3) := by decide +kernel
theorem d_CS_anyFull_15 : decode b_CS_anyFull 15 = .ok (.aload_n 0, 1) := by decide +kernel
theorem d_CS_anyFull_16 : decode b_CS_anyFull 16 = .ok (.getfield 25, 3) := by decide +kernel
theorem d_CS_anyFull_19 : decode b_CS_anyFull 19 = .ok (.iload_n 2, 1) := by decide +kernel
theorem d_CS_anyFull_20 : decode b_CS_anyFull 20 = .ok (.aaload, 1) := by decide +kernel
theorem d_CS_anyFull_21 : decode b_CS_anyFull 21 = .ok (.invokevirtual 225, 3) := by decide +kernel
theorem d_CS_anyFull_24 : decode b_CS_anyFull 24 = .ok (.ifCond .eq 5, 3) := by decide +kernel
theorem d_CS_anyFull_27 : decode b_CS_anyFull 27 = .ok (.iconst 1, 1) := by decide +kernel
theorem d_CS_anyFull_28 : decode b_CS_anyFull 28 = .ok (.ireturn, 1) := by decide +kernel
theorem d_CS_anyFull_29 : decode b_CS_anyFull 29 = .ok (.iinc 2 1, 3) := by decide +kernel
theorem d_CS_anyFull_32 : decode b_CS_anyFull 32 = .ok (.goto (-30), 3) := by decide +kernel
theorem d_CS_anyFull_35 : decode b_CS_anyFull 35 = .ok (.iconst 0, 1) := by decide +kernel
theorem d_CS_anyFull_36 : decode b_CS_anyFull 36 = .ok (.ireturn, 1) := by decide +kernel
theorem d_SV_addLike_0 : decode b_SV_addLike 0 = .ok (.aload_n 0, 1) := by decide +kernel
theorem d_SV_addLike_1 : decode b_SV_addLike 1 = .ok (.getfield 9, 3) := by decide +kernel
theorem d_SV_addLike_4 : decode b_SV_addLike 4 = .ok (.iload_n 1, 1) := by decide +kernel
theorem d_SV_addLike_5 : decode b_SV_addLike 5 = .ok (.iload 4, 2) := by decide +kernel
theorem d_SV_addLike_7 : decode b_SV_addLike 7 = .ok (.iastore, 1) := by decide +kernel
theorem d_SV_addLike_8 : decode b_SV_addLike 8 = .ok (.aload_n 0, 1) := by decide +kernel
theorem d_SV_addLike_9 : decode b_SV_addLike 9 = .ok (.getfield 15, 3) := by decide +kernel
theorem d_SV_addLike_12 : decode b_SV_addLike 12 = .ok (.iload_n 1, 1) := by decide +kernel
theorem d_SV_addLike_13 : decode b_SV_addLike 13 = .ok (.aload_n 2, 1) := by decide +kernel
theorem d_SV_addLike_14 : decode b_SV_addLike 14 = .ok (.getfield 15, 3) := by decide +kernel
theorem d_SV_addLike_17 : decode b_SV_addLike 17 = .ok (.iload_n 3, 1) := by decide +kernel
theorem d_SV_addLike_18 : decode b_SV_addLike 18 = .ok (.iaload, 1) := by decide +kernel
theorem d_SV_addLike_19 : decode b_SV_addLike 19 = .ok (.iastore, 1) := by decide +kernel
theorem d_SV_addLike_20 : decode b_SV_addLike 20 = .ok (.iconst 0, 1) := by decide +kernel
theorem d_SV_addLike_21 : decode b_SV_addLike 21 = .ok (.istore 5, 2) := by decide +kernel
theorem d_SV_addLike_23 : decode b_SV_addLike 23 = .ok (.iload 5, 2) := by decide +kernel
theorem d_SV_addLike_25 : decode b_SV_addLike 25 = .ok (.iconst 4, 1) := by decide +kernel
theorem d_SV_addLike_26 : decode b_SV_addLike 26 = .ok (.if_icmp .ge 31, 3) := by decide +kernel
theorem d_SV_addLike_29 : decode b_SV_addLike 29 = .ok (.aload_n 0, 1) := by decide +kernel
theorem d_SV_addLike_30 : decode b_SV_addLike 30 = .ok (.getfield 18, 3) := by decide +kernel
theorem d_SV_addLike_33 : decode b_SV_addLike 33 = .ok (.iload_n 1, 1) := by decide +kernel
theorem d_SV_addLike_34 : decode b_SV_addLike 34 = .ok (.iconst 4, 1) := by decide +kernel
theorem d_SV_addLike_35 : decode b_SV_addLike 35 = .ok (.imul, 1) := by decide +kernel
theorem d_SV_addLike_36 : decode b_SV_addLike 36 = .ok (.iload 5, 2) := by decide +kernel
theorem d_SV_addLike_38 : decode b_SV_addLike 38 = .ok (.iadd, 1) := by decide +kernel
theorem d_SV_addLike_39 : decode b_SV_addLike 39 = .ok (.aload_n 2, 1) := by decide +kernel
theorem d_SV_addLike_40 : decode b_SV_addLike 40 = .ok (.getfield 18, 3) := by decide +kernel
theorem d_SV_addLike_43 : decode b_SV_addLike 43 = .ok (.iload_n 3, 1) := by decide +kernel
theorem d_SV_addLike_44 : decode b_SV_addLike 44 = .ok (.iconst 4, 1) := by decide +kernel
theorem d_SV_addLike_45 : decode b_SV_addLike 45 = .ok (.imul, 1) := by decide +kernel
theorem d_SV_addLike_46 : decode b_SV_addLike 46 = .ok (.iload 5, 2) := by decide +kernel
theorem d_SV_addLike_48 : decode b_SV_addLike 48 = .ok (.iadd, 1) := by decide +kernel
theorem d_SV_addLike_49 : decode b_SV_addLike 49 = .ok (.iaload, 1) := by decide +kernel
theorem d_SV_addLike_50 : decode b_SV_addLike 50 = .ok (.iastore, 1) := by decide +kernel
theorem d_SV_addLike_51 : decode b_SV_addLike 51 = .ok (.iinc 5 1, 3) := by decide +kernel
theorem d_SV_addLike_54 : decode b_SV_addLike 54 = .ok (.goto (-31), 3) := by decide +kernel
theorem d_SV_addLike_57 : decode b_SV_addLike 57 = .ok (.aload_n 0, 1) := by decide +kernel
theorem d_SV_addLike_58 : decode b_SV_addLike 58 = .ok (.dup, 1) := by decide +kernel
theorem d_SV_addLike_59 : decode b_SV_addLike 59 = .ok (.getfield 25, 3) := by decide +kernel
theorem d_SV_addLike_62 : decode b_SV_addLike 62 = .ok (.iconst 1, 1) := by decide +kernel
theorem d_SV_addLike_63 : decode b_SV_addLike 63 = .ok (.iadd, 1) := by decide +kernel
theorem d_SV_addLike_64 : decode b_SV_addLike 64 = .ok (.putfield 25, 3) := by decide +kernel
theorem d_SV_addLike_67 : decode b_SV_addLike 67 = .ok (.return_, 1) := by decide +kernel
theorem d_CS_raiseVersion_0 : decode b_CS_raiseVersion 0 = .ok (.aload_n 0, 1) := by decide +kernel
theorem d_CS_raiseVersion_1 : decode b_CS_raiseVersion 1 = .ok (.getfield 18, 3) := by decide +kernel
theorem d_CS_raiseVersion_4 : decode b_CS_raiseVersion 4 = .ok (.iload_n 1, 1) := by decide +kernel
theorem d_CS_raiseVersion_5 : decode b_CS_raiseVersion 5 = .ok (.aaload, 1) := by decide +kernel
theorem d_CS_raiseVersion_6 : decode b_CS_raiseVersion 6 = .ok (.astore_n 3, 1) := by decide +kernel
theorem d_CS_raiseVersion_7 : decode b_CS_raiseVersion 7 = .ok (.aload_n 3, 1) := by decide +kernel
theorem d_CS_raiseVersion_8 : decode b_CS_raiseVersion 8 = .ok (.dup, 1) := by decide +kernel
theorem d_CS_raiseVersion_9 : decode b_CS_raiseVersion 9 = .ok (.getfield 110, 3) := by decide +kernel
theorem d_CS_raiseVersion_12 : decode b_CS_raiseVersion 12 = .ok (.iconst 1, 1) := by decide +kernel
theorem d_CS_raiseVersion_13 : decode b_CS_raiseVersion 13 = .ok (.iadd, 1) := by decide +kernel
theorem d_CS_raiseVersion_14 : decode b_CS_raiseVersion 14 = .ok (.putfield 110, 3) := by decide +kernel
theorem d_CS_raiseVersion_17 : decode b_CS_raiseVersion 17 = .ok (.aload_n 3, 1) := by decide +kernel
theorem d_CS_raiseVersion_18 : decode b_CS_raiseVersion 18 = .ok (.iload_n 2, 1) := by decide +kernel
theorem d_CS_raiseVersion_19 : decode b_CS_raiseVersion 19 = .ok (.putfield 179, 3) := by decide +kernel
theorem d_CS_raiseVersion_22 : decode b_CS_raiseVersion 22 = .ok (.iconst 0, 1) := by decide +kernel
theorem d_CS_raiseVersion_23 : decode b_CS_raiseVersion 23 = .ok (.istore 4, 2) := by decide +kernel
theorem d_CS_raiseVersion_25 : decode b_CS_raiseVersion 25 = .ok (.iload 4, 2) := by decide +kernel
theorem d_CS_raiseVersion_27 : decode b_CS_raiseVersion 27 = .ok (.iconst 5, 1) := by decide +kernel
theorem d_CS_raiseVersion_28 : decode b_CS_raiseVersion 28 = .ok (.if_icmp .ge 34, 3) := by decide +kernel
theorem d_CS_raiseVersion_31 : decode b_CS_raiseVersion 31 = .ok (.iload_n 2, 1) := by decide +kernel
theorem d_CS_raiseVersion_32 : decode b_CS_raiseVersion 32 = .ok (.iload 4, 2) := by decide +kernel
theorem d_CS_raiseVersion_34 : decode b_CS_raiseVersion 34 = .ok (.invokestatic 118, 3) := by decide +kernel
theorem d_CS_raiseVersion_37 : decode b_CS_raiseVersion 37 = .ok (.ifCond .eq 19, 3) := by decide +kernel
theorem d_CS_raiseVersion_40 : decode b_CS_raiseVersion 40 = .ok (.aload_n 0, 1) := by decide +kernel
theorem d_CS_raiseVersion_41 : decode b_CS_raiseVersion 41 = .ok (.getfield 25, 3) := by decide +kernel
theorem d_CS_raiseVersion_44 : decode b_CS_raiseVersion 44 = .ok (.iload 4, 2) := by decide +kernel
theorem d_CS_raiseVersion_46 : decode b_CS_raiseVersion 46 = .ok (.aaload, 1) := by decide +kernel
theorem d_CS_raiseVersion_47 : decode b_CS_raiseVersion 47 = .ok (.getfield 131, 3) := by decide +kernel
theorem d_CS_raiseVersion_50 : decode b_CS_raiseVersion 50 = .ok (.iload_n 1, 1) := by decide +kernel
theorem d_CS_raiseVersion_51 : decode b_CS_raiseVersion 51 = .ok (.aload_n 3, 1) := by decide +kernel
theorem d_CS_raiseVersion_52 : decode b_CS_raiseVersion 52 = .ok (.getfield 110, 3) := by decide +kernel
theorem d_CS_raiseVersion_55 : decode b_CS_raiseVersion 55 = .ok (.iastore, 1) := by decide +kernel
theorem d_CS_raiseVersion_56 : decode b_CS_raiseVersion 56 = .ok (.iinc 4 1, 3) := by decide +kernel
theorem d_CS_raiseVersion_59 : decode b_CS_raiseVersion 59 = .ok (.goto (-34), 3) := by decide +kernel
theorem d_CS_raiseVersion_62 : decode b_CS_raiseVersion 62 = .ok (.return_, 1) := by decide +kernel
theorem d_CS_setWordAtHolders_0 : decode b_CS_setWordAtHolders 0 = .ok (.iconst 0, 1) := by decide +kernel
theorem d_CS_setWordAtHolders_1 : decode b_CS_setWordAtHolders 1 = .ok (.istore 4, 2) := by decide +kernel
theorem d_CS_setWordAtHolders_3 : decode b_CS_setWordAtHolders 3 = .ok (.iload 4, 2) := by decide +kernel
theorem d_CS_setWordAtHolders_5 : decode b_CS_setWordAtHolders 5 = .ok (.iconst 5, 1) := by decide +kernel
theorem d_CS_setWordAtHolders_6 : decode b_CS_setWordAtHolders 6 = .ok (.if_icmp .ge 39, 3) := by decide +kernel
theorem d_CS_setWordAtHolders_9 : decode b_CS_setWordAtHolders 9 = .ok (.aload_n 0, 1) := by decide +kernel
theorem d_CS_setWordAtHolders_10 : decode b_CS_setWordAtHolders 10 = .ok (.getfield 18, 3) := by decide +kernel
theorem d_CS_setWordAtHolders_13 : decode b_CS_setWordAtHolders 13 = .ok (.iload_n 1, 1) := by decide +kernel
theorem d_CS_setWordAtHolders_14 : decode b_CS_setWordAtHolders 14 = .ok (.aaload, 1) := by decide +kernel
theorem d_CS_setWordAtHolders_15 : decode b_CS_setWordAtHolders 15 = .ok (.getfield 179, 3) := by decide +kernel
theorem d_CS_setWordAtHolders_18 : decode b_CS_setWordAtHolders 18 = .ok (.iload 4, 2) := by decide +kernel
theorem d_CS_setWordAtHolders_20 : decode b_CS_setWordAtHolders 20 = .ok (.invokestatic 118, 3) := by decide +kernel
theorem d_CS_setWordAtHolders_23 : decode b_CS_setWordAtHolders 23 = .ok (.ifCond .eq 16, 3) := by decide +kernel
theorem d_CS_setWordAtHolders_26 : decode b_CS_setWordAtHolders 26 = .ok (.aload_n 0, 1) := by decide +kernel
theorem d_CS_setWordAtHolders_27 : decode b_CS_setWordAtHolders 27 = .ok (.getfield 25, 3) := by decide +kernel
theorem d_CS_setWordAtHolders_30 : decode b_CS_setWordAtHolders 30 = .ok (.iload 4, 2) := by decide +kernel
theorem d_CS_setWordAtHolders_32 : decode b_CS_setWordAtHolders 32 = .ok (.aaload, 1) := by decide +kernel
theorem d_CS_setWordAtHolders_33 : decode b_CS_setWordAtHolders 33 = .ok (.iload_n 1, 1) := by decide +kernel
theorem d_CS_setWordAtHolders_34 : decode b_CS_setWordAtHolders 34 = .ok (.iload_n 2, 1) := by decide +kernel
theorem d_CS_setWordAtHolders_35 : decode b_CS_setWordAtHolders 35 = .ok (.iload_n 3, 1) := by decide +kernel
theorem d_CS_setWordAtHolders_36 : decode b_CS_setWordAtHolders 36 = .ok (.invokevirtual 265, 3) := by decide +kernel
theorem d_CS_setWordAtHolders_39 : decode b_CS_setWordAtHolders 39 = .ok (.iinc 4 1, 3) := by decide +kernel
theorem d_CS_setWordAtHolders_42 : decode b_CS_setWordAtHolders 42 = .ok (.goto (-39), 3) := by decide +kernel
theorem d_CS_setWordAtHolders_45 : decode b_CS_setWordAtHolders 45 = .ok (.return_, 1) := by decide +kernel
theorem d_SV_setWord_0 : decode b_SV_setWord 0 = .ok (.iload_n 2, 1) := by decide +kernel
theorem d_SV_setWord_1 : decode b_SV_setWord 1 = .ok (.iconst 4, 1) := by decide +kernel
theorem d_SV_setWord_2 : decode b_SV_setWord 2 = .ok (.if_icmp .ge 32, 3) := by decide +kernel
theorem d_SV_setWord_5 : decode b_SV_setWord 5 = .ok (.aload_n 0, 1) := by decide +kernel
theorem d_SV_setWord_6 : decode b_SV_setWord 6 = .ok (.getfield 18, 3) := by decide +kernel
theorem d_SV_setWord_9 : decode b_SV_setWord 9 = .ok (.iload_n 1, 1) := by decide +kernel
theorem d_SV_setWord_10 : decode b_SV_setWord 10 = .ok (.iconst 4, 1) := by decide +kernel
theorem d_SV_setWord_11 : decode b_SV_setWord 11 = .ok (.imul, 1) := by decide +kernel
theorem d_SV_setWord_12 : decode b_SV_setWord 12 = .ok (.iload_n 2, 1) := by decide +kernel
theorem d_SV_setWord_13 : decode b_SV_setWord 13 = .ok (.iadd, 1) := by decide +kernel
theorem d_SV_setWord_14 : decode b_SV_setWord 14 = .ok (.iload_n 3, 1) := by decide +kernel
theorem d_SV_setWord_15 : decode b_SV_setWord 15 = .ok (.iastore, 1) := by decide +kernel
theorem d_SV_setWord_16 : decode b_SV_setWord 16 = .ok (.aload_n 0, 1) := by decide +kernel
theorem d_SV_setWord_17 : decode b_SV_setWord 17 = .ok (.getfield 15, 3) := by decide +kernel
theorem d_SV_setWord_20 : decode b_SV_setWord 20 = .ok (.iload_n 1, 1) := by decide +kernel
theorem d_SV_setWord_21 : decode b_SV_setWord 21 = .ok (.aload_n 0, 1) := by decide +kernel
theorem d_SV_setWord_22 : decode b_SV_setWord 22 = .ok (.getfield 15, 3) := by decide +kernel
theorem d_SV_setWord_25 : decode b_SV_setWord 25 = .ok (.iload_n 1, 1) := by decide +kernel
theorem d_SV_setWord_26 : decode b_SV_setWord 26 = .ok (.iaload, 1) := by decide +kernel
theorem d_SV_setWord_27 : decode b_SV_setWord 27 = .ok (.iload_n 2, 1) := by decide +kernel
theorem d_SV_setWord_28 : decode b_SV_setWord 28 = .ok (.iconst 1, 1) := by decide +kernel
theorem d_SV_setWord_29 : decode b_SV_setWord 29 = .ok (.iadd, 1) := by decide +kernel
theorem d_SV_setWord_30 : decode b_SV_setWord 30 = .ok (.invokestatic 29, 3) := by decide +kernel
theorem d_SV_setWord_33 : decode b_SV_setWord 33 = .ok (.iastore, 1) := by decide +kernel
theorem d_SV_setWord_34 : decode b_SV_setWord 34 = .ok (.return_, 1) := by decide +kernel
theorem d_MA_max_0 : decode b_MA_max 0 = .ok (.iload_n 0, 1) := by decide +kernel
theorem d_MA_max_1 : decode b_MA_max 1 = .ok (.iload_n 1, 1) := by decide +kernel
theorem d_MA_max_2 : decode b_MA_max 2 = .ok (.if_icmp .lt 7, 3) := by decide +kernel
theorem d_MA_max_5 : decode b_MA_max 5 = .ok (.iload_n 0, 1) := by decide +kernel
theorem d_MA_max_6 : decode b_MA_max 6 = .ok (.goto 4, 3) := by decide +kernel
theorem d_MA_max_9 : decode b_MA_max 9 = .ok (.iload_n 1, 1) := by decide +kernel
theorem d_MA_max_10 : decode b_MA_max 10 = .ok (.ireturn, 1) := by decide +kernel
theorem d_CS_append_0 : decode b_CS_append 0 = .ok (.iload_n 1, 1) := by decide +kernel
theorem d_CS_append_1 : decode b_CS_append 1 = .ok (.bipush 8, 2) := by decide +kernel
theorem d_CS_append_3 : decode b_CS_append 3 = .ok (.invokestatic 37, 3) := by decide +kernel
theorem d_CS_append_6 : decode b_CS_append 6 = .ok (.aload_n 0, 1) := by decide +kernel
theorem d_CS_append_7 : decode b_CS_append 7 = .ok (.iload_n 1, 1) := by decide +kernel
theorem d_CS_append_8 : decode b_CS_append 8 = .ok (.invokevirtual 53, 3) := by decide +kernel
theorem d_CS_append_11 : decode b_CS_append 11 = .ok (.astore_n 3, 1) := by decide +kernel
theorem d_CS_append_12 : decode b_CS_append 12 = .ok (.aload_n 3, 1) := by decide +kernel
theorem d_CS_append_13 : decode b_CS_append 13 = .ok (.getfield 63, 3) := by decide +kernel
theorem d_CS_append_16 : decode b_CS_append 16 = .ok (.ifCond .eq 22, 3) := by decide +kernel
theorem d_CS_append_19 : decode b_CS_append 19 = .ok (.aload_n 0, 1) := by decide +kernel
theorem d_CS_append_20 : decode b_CS_append 20 = .ok (.aload_n 3, 1) := by decide +kernel
theorem d_CS_append_21 : decode b_CS_append 21 = .ok (.getfield 73, 3) := by decide +kernel
theorem d_CS_append_24 : decode b_CS_append 24 = .ok (.aload_n 3, 1) := by decide +kernel
theorem d_CS_append_25 : decode b_CS_append 25 = .ok (.getfield 63, 3) := by decide +kernel
theorem d_CS_append_28 : decode b_CS_append 28 = .ok (.iconst 1, 1) := by decide +kernel
theorem d_CS_append_29 : decode b_CS_append 29 = .ok (.isub, 1) := by decide +kernel
theorem d_CS_append_30 : decode b_CS_append 30 = .ok (.iaload, 1) := by decide +kernel
theorem d_CS_append_31 : decode b_CS_append 31 = .ok (.invokevirtual 111, 3) := by decide +kernel
theorem d_CS_append_34 : decode b_CS_append 34 = .ok (.iconst 4, 1) := by decide +kernel
theorem d_CS_append_35 : decode b_CS_append 35 = .ok (.if_icmp .lt 9, 3) := by decide +kernel
theorem d_CS_append_38 : decode b_CS_append 38 = .ok (.aload_n 0, 1) := by decide +kernel
theorem d_CS_append_39 : decode b_CS_append 39 = .ok (.aload_n 3, 1) := by decide +kernel
theorem d_CS_append_40 : decode b_CS_append 40 = .ok (.invokevirtual 87, 3) := by decide +kernel
theorem d_CS_append_43 : decode b_CS_append 43 = .ok (.pop, 1) := by decide +kernel
theorem d_CS_append_44 : decode b_CS_append 44 = .ok (.aload_n 3, 1) := by decide +kernel
theorem d_CS_append_45 : decode b_CS_append 45 = .ok (.getfield 63, 3) := by decide +kernel
theorem d_CS_append_48 : decode b_CS_append 48 = .ok (.iconst 1, 1) := by decide +kernel
theorem d_CS_append_49 : decode b_CS_append 49 = .ok (.isub, 1) := by decide +kernel
theorem d_CS_append_50 : decode b_CS_append 50 = .ok (.istore 4, 2) := by decide +kernel
theorem d_CS_append_52 : decode b_CS_append 52 = .ok (.aload_n 0, 1) := by decide +kernel
theorem d_CS_append_53 : decode b_CS_append 53 = .ok (.aload_n 3, 1) := by decide +kernel
theorem d_CS_append_54 : decode b_CS_append 54 = .ok (.iload 4, 2) := by decide +kernel
theorem d_CS_append_56 : decode b_CS_append 56 = .ok (.invokevirtual 102, 3) := by decide +kernel
theorem d_CS_append_59 : decode b_CS_append 59 = .ok (.istore 5, 2) := by decide +kernel
theorem d_CS_append_61 : decode b_CS_append 61 = .ok (.aload_n 0, 1) := by decide +kernel
theorem d_CS_append_62 : decode b_CS_append 62 = .ok (.iload 5, 2) := by decide +kernel
theorem d_CS_append_64 : decode b_CS_append 64 = .ok (.invokevirtual 111, 3) := by decide +kernel
theorem d_CS_append_67 : decode b_CS_append 67 = .ok (.istore 6, 2) := by decide +kernel
theorem d_CS_append_69 : decode b_CS_append 69 = .ok (.aload_n 0, 1) := by decide +kernel
theorem d_CS_append_70 : decode b_CS_append 70 = .ok (.iload 5, 2) := by decide +kernel
theorem d_CS_append_72 : decode b_CS_append 72 = .ok (.iload 6, 2) := by decide +kernel
theorem d_CS_append_74 : decode b_CS_append 74 = .ok (.iload_n 2, 1) := by decide +kernel
theorem d_CS_append_75 : decode b_CS_append 75 = .ok (.invokevirtual 106, 3) := by decide +kernel
theorem d_CS_append_78 : decode b_CS_append 78 = .ok (.iconst 4, 1) := by decide +kernel
theorem d_CS_append_79 : decode b_CS_append 79 = .ok (.iload 4, 2) := by decide +kernel
theorem d_CS_append_81 : decode b_CS_append 81 = .ok (.imul, 1) := by decide +kernel
theorem d_CS_append_82 : decode b_CS_append 82 = .ok (.iload 6, 2) := by decide +kernel
theorem d_CS_append_84 : decode b_CS_append 84 = .ok (.iadd, 1) := by decide +kernel
theorem d_CS_append_85 : decode b_CS_append 85 = .ok (.ireturn, 1) := by decide +kernel
theorem d_CS_usedAtFirst_0 : decode b_CS_usedAtFirst 0 = .ok (.aload_n 0, 1) := by decide +kernel
theorem d_CS_usedAtFirst_1 : decode b_CS_usedAtFirst 1 = .ok (.getfield 18, 3) := by decide +kernel
theorem d_CS_usedAtFirst_4 : decode b_CS_usedAtFirst 4 = .ok (.iload_n 1, 1) := by decide +kernel
theorem d_CS_usedAtFirst_5 : decode b_CS_usedAtFirst 5 = .ok (.aaload, 1) := by decide +kernel
theorem d_CS_usedAtFirst_6 : decode b_CS_usedAtFirst 6 = .ok (.getfield 179, 3) := by decide +kernel
theorem d_CS_usedAtFirst_9 : decode b_CS_usedAtFirst 9 = .ok (.invokestatic 170, 3) := by decide +kernel
theorem d_CS_usedAtFirst_12 : decode b_CS_usedAtFirst 12 = .ok (.istore_n 2, 1) := by decide +kernel
theorem d_CS_usedAtFirst_13 : decode b_CS_usedAtFirst 13 = .ok (.iload_n 2, 1) := by decide +kernel
theorem d_CS_usedAtFirst_14 : decode b_CS_usedAtFirst 14 = .ok (.iconst (-1), 1) := by decide +kernel
theorem d_CS_usedAtFirst_15 : decode b_CS_usedAtFirst 15 = .ok (.if_icmp .ne 7, 3) := by decide +kernel
theorem d_CS_usedAtFirst_18 : decode b_CS_usedAtFirst 18 = .ok (.iconst 0, 1) := by decide +kernel
theorem d_CS_usedAtFirst_19 : decode b_CS_usedAtFirst 19 = .ok (.goto 14, 3) := by decide +kernel
theorem d_CS_usedAtFirst_22 : decode b_CS_usedAtFirst 22 = .ok (.aload_n 0, 1) := by decide +kernel
theorem d_CS_usedAtFirst_23 : decode b_CS_usedAtFirst 23 = .ok (.getfield 25, 3) := by decide +kernel
theorem d_CS_usedAtFirst_26 : decode b_CS_usedAtFirst 26 = .ok (.iload_n 2, 1) := by decide +kernel
theorem d_CS_usedAtFirst_27 : decode b_CS_usedAtFirst 27 = .ok (.aaload, 1) := by decide +kernel
theorem d_CS_usedAtFirst_28 : decode b_CS_usedAtFirst 28 = .ok (.getfield 200, 3) := by decide +kernel
theorem d_CS_usedAtFirst_31 : decode b_CS_usedAtFirst 31 = .ok (.iload_n 1, 1) := by decide +kernel
theorem d_CS_usedAtFirst_32 : decode b_CS_usedAtFirst 32 = .ok (.iaload, 1) := by decide +kernel
theorem d_CS_usedAtFirst_33 : decode b_CS_usedAtFirst 33 = .ok (.ireturn, 1) := by decide +kernel
theorem d_CS_first_0 : decode b_CS_first 0 = .ok (.iconst 0, 1) := by decide +kernel
theorem d_CS_first_1 : decode b_CS_first 1 = .ok (.istore_n 1, 1) := by decide +kernel
theorem d_CS_first_2 : decode b_CS_first 2 = .ok (.iload_n 1, 1) := by decide +kernel
theorem d_CS_first_3 : decode b_CS_first 3 = .ok (.iconst 5, 1) := by decide +kernel
theorem d_CS_first_4 : decode b_CS_first 4 = .ok (.if_icmp .ge 19, 3) := by decide +kernel
theorem d_CS_first_7 : decode b_CS_first 7 = .ok (.iload_n 0, 1) := by decide +kernel
theorem d_CS_first_8 : decode b_CS_first 8 = .ok (.iload_n 1, 1) := by decide +kernel
theorem d_CS_first_9 : decode b_CS_first 9 = .ok (.invokestatic 118, 3) := by decide +kernel
theorem d_CS_first_12 : decode b_CS_first 12 = .ok (.ifCond .eq 5, 3) := by decide +kernel
theorem d_CS_first_15 : decode b_CS_first 15 = .ok (.iload_n 1, 1) := by decide +kernel
theorem d_CS_first_16 : decode b_CS_first 16 = .ok (.ireturn, 1) := by decide +kernel
theorem d_CS_first_17 : decode b_CS_first 17 = .ok (.iinc 1 1, 3) := by decide +kernel
theorem d_CS_first_20 : decode b_CS_first 20 = .ok (.goto (-18), 3) := by decide +kernel
theorem d_CS_first_23 : decode b_CS_first 23 = .ok (.iconst (-1), 1) := by decide +kernel
theorem d_CS_first_24 : decode b_CS_first 24 = .ok (.ireturn, 1) := by decide +kernel
theorem d_CS_read_0 : decode b_CS_read 0 = .ok (.iload_n 1, 1) := by decide +kernel
theorem d_CS_read_1 : decode b_CS_read 1 = .ok (.iconst 3, 1) := by decide +kernel
theorem d_CS_read_2 : decode b_CS_read 2 = .ok (.invokestatic 37, 3) := by decide +kernel
theorem d_CS_read_5 : decode b_CS_read 5 = .ok (.iload_n 2, 1) := by decide +kernel
theorem d_CS_read_6 : decode b_CS_read 6 = .ok (.bipush 8, 2) := by decide +kernel
theorem d_CS_read_8 : decode b_CS_read 8 = .ok (.invokestatic 37, 3) := by decide +kernel
theorem d_CS_read_11 : decode b_CS_read 11 = .ok (.iload_n 3, 1) := by decide +kernel
theorem d_CS_read_12 : decode b_CS_read 12 = .ok (.iconst 3, 1) := by decide +kernel
theorem d_CS_read_13 : decode b_CS_read 13 = .ok (.invokestatic 37, 3) := by decide +kernel
theorem d_CS_read_16 : decode b_CS_read 16 = .ok (.iload 4, 2) := by decide +kernel
theorem d_CS_read_18 : decode b_CS_read 18 = .ok (.iconst 4, 1) := by decide +kernel
theorem d_CS_read_19 : decode b_CS_read 19 = .ok (.invokestatic 37, 3) := by decide +kernel
theorem d_CS_read_22 : decode b_CS_read 22 = .ok (.iload 5, 2) := by decide +kernel
theorem d_CS_read_24 : decode b_CS_read 24 = .ok (.iconst 5, 1) := by decide +kernel
theorem d_CS_read_25 : decode b_CS_read 25 = .ok (.invokestatic 37, 3) := by decide +kernel
theorem d_CS_read_28 : decode b_CS_read 28 = .ok (.aload_n 0, 1) := by decide +kernel
theorem d_CS_read_29 : decode b_CS_read 29 = .ok (.iload_n 1, 1) := by decide +kernel
theorem d_CS_read_30 : decode b_CS_read 30 = .ok (.iload_n 2, 1) := by decide +kernel
theorem d_CS_read_31 : decode b_CS_read 31 = .ok (.iload_n 3, 1) := by decide +kernel
theorem d_CS_read_32 : decode b_CS_read 32 = .ok (.invokevirtual 91, 3) := by decide +kernel
theorem d_CS_read_35 : decode b_CS_read 35 = .ok (.astore 6, 2) := by decide +kernel
theorem d_CS_read_37 : decode b_CS_read 37 = .ok (.aload 6, 2) := by decide +kernel
theorem d_CS_read_39 : decode b_CS_read 39 = .ok (.getfield 115, 3) := by decide +kernel
theorem d_CS_read_42 : decode b_CS_read 42 = .ok (.iload 5, 2) := by decide +kernel
theorem d_CS_read_44 : decode b_CS_read 44 = .ok (.invokestatic 118, 3) := by decide +kernel
theorem d_CS_read_47 : decode b_CS_read 47 = .ok (.ifCond .ne 13, 3) := by decide +kernel
theorem d_CS_read_50 : decode b_CS_read 50 = .ok (.new 122, 3) := by decide +kernel
theorem d_CS_read_53 : decode b_CS_read 53 = .ok (.dup, 1) := by decide +kernel
theorem d_CS_read_54 : decode b_CS_read 54 = .ok (.ldc 124, 2) := by decide +kernel
theorem d_CS_read_56 : decode b_CS_read 56 = .ok (.invokespecial 126, 3) := by decide +kernel
theorem d_CS_read_59 : decode b_CS_read 59 = .ok (.athrow, 1) := by decide +kernel
theorem d_CS_read_60 : decode b_CS_read 60 = .ok (.aload_n 0, 1) := by decide +kernel
theorem d_CS_read_61 : decode b_CS_read 61 = .ok (.getfield 25, 3) := by decide +kernel
theorem d_CS_read_64 : decode b_CS_read 64 = .ok (.iload 5, 2) := by decide +kernel
theorem d_CS_read_66 : decode b_CS_read 66 = .ok (.aaload, 1) := by decide +kernel
theorem d_CS_read_67 : decode b_CS_read 67 = .ok (.astore 7, 2) := by decide +kernel
theorem d_CS_read_69 : decode b_CS_read 69 = .ok (.aload 7, 2) := by decide +kernel
theorem d_CS_read_71 : decode b_CS_read 71 = .ok (.getfield 127, 3) := by decide +kernel
theorem d_CS_read_74 : decode b_CS_read 74 = .ok (.ifCond .eq 22, 3) := by decide +kernel
theorem d_CS_read_77 : decode b_CS_read 77 = .ok (.aload 7, 2) := by decide +kernel
theorem d_CS_read_79 : decode b_CS_read 79 = .ok (.getfield 131, 3) := by decide +kernel
theorem d_CS_read_82 : decode b_CS_read 82 = .ok (.aload 6, 2) := by decide +kernel
theorem d_CS_read_84 : decode b_CS_read 84 = .ok (.getfield 134, 3) := by decide +kernel
theorem d_CS_read_87 : decode b_CS_read 87 = .ok (.iaload, 1) := by decide +kernel
theorem d_CS_read_88 : decode b_CS_read 88 = .ok (.aload 6, 2) := by decide +kernel
theorem d_CS_read_90 : decode b_CS_read 90 = .ok (.getfield 95, 3) := by decide +kernel
theorem d_CS_read_93 : decode b_CS_read 93 = .ok (.if_icmp .ge 13, 3) := by decide +kernel
theorem d_CS_read_96 : decode b_CS_read 96 = .ok (.new 137, 3) := by decide +kernel
theorem d_CS_read_99 : decode b_CS_read 99 = .ok (.dup, 1) := by decide +kernel
theorem d_CS_read_100 : decode b_CS_read 100 = .ok (.ldc 139, 2) := by decide +kernel
theorem d_CS_read_102 : decode b_CS_read 102 = .ok (.invokespecial 141, 3) := by decide +kernel
theorem d_CS_read_105 : decode b_CS_read 105 = .ok (.athrow, 1) := by decide +kernel
theorem d_CS_read_106 : decode b_CS_read 106 = .ok (.aload 7, 2) := by decide +kernel
theorem d_CS_read_108 : decode b_CS_read 108 = .ok (.aload 6, 2) := by decide +kernel
theorem d_CS_read_110 : decode b_CS_read 110 = .ok (.getfield 134, 3) := by decide +kernel
theorem d_CS_read_113 : decode b_CS_read 113 = .ok (.iload 4, 2) := by decide +kernel
theorem d_CS_read_115 : decode b_CS_read 115 = .ok (.invokevirtual 142, 3) := by decide +kernel
theorem d_CS_read_118 : decode b_CS_read 118 = .ok (.ireturn, 1) := by decide +kernel
theorem d_SV_word_0 : decode b_SV_word 0 = .ok (.aload_n 0, 1) := by decide +kernel
theorem d_SV_word_1 : decode b_SV_word 1 = .ok (.getfield 18, 3) := by decide +kernel
theorem d_SV_word_4 : decode b_SV_word 4 = .ok (.iload_n 1, 1) := by decide +kernel
theorem d_SV_word_5 : decode b_SV_word 5 = .ok (.iconst 4, 1) := by decide +kernel
theorem d_SV_word_6 : decode b_SV_word 6 = .ok (.imul, 1) := by decide +kernel
theorem d_SV_word_7 : decode b_SV_word 7 = .ok (.iload_n 2, 1) := by decide +kernel
theorem d_SV_word_8 : decode b_SV_word 8 = .ok (.iadd, 1) := by decide +kernel
theorem d_SV_word_9 : decode b_SV_word 9 = .ok (.iaload, 1) := by decide +kernel
theorem d_SV_word_10 : decode b_SV_word 10 = .ok (.ireturn, 1) := by decide +kernel
theorem d_CS_up_0 : decode b_CS_up 0 = .ok (.iload_n 1, 1) := by decide +kernel
theorem d_CS_up_1 : decode b_CS_up 1 = .ok (.iconst 5, 1) := by decide +kernel
theorem d_CS_up_2 : decode b_CS_up 2 = .ok (.invokestatic 37, 3) := by decide +kernel
theorem d_CS_up_5 : decode b_CS_up 5 = .ok (.aload_n 0, 1) := by decide +kernel
theorem d_CS_up_6 : decode b_CS_up 6 = .ok (.getfield 25, 3) := by decide +kernel
theorem d_CS_up_9 : decode b_CS_up 9 = .ok (.iload_n 1, 1) := by decide +kernel
theorem d_CS_up_10 : decode b_CS_up 10 = .ok (.aaload, 1) := by decide +kernel
theorem d_CS_up_11 : decode b_CS_up 11 = .ok (.iload_n 2, 1) := by decide +kernel
theorem d_CS_up_12 : decode b_CS_up 12 = .ok (.putfield 127, 3) := by decide +kernel
theorem d_CS_up_15 : decode b_CS_up 15 = .ok (.aload_n 0, 1) := by decide +kernel
theorem d_CS_up_16 : decode b_CS_up 16 = .ok (.getfield 25, 3) := by decide +kernel
theorem d_CS_up_19 : decode b_CS_up 19 = .ok (.iload_n 1, 1) := by decide +kernel
theorem d_CS_up_20 : decode b_CS_up 20 = .ok (.aaload, 1) := by decide +kernel
theorem d_CS_up_21 : decode b_CS_up 21 = .ok (.getfield 146, 3) := by decide +kernel
theorem d_CS_up_24 : decode b_CS_up 24 = .ok (.ireturn, 1) := by decide +kernel
theorem d_CS_report_0 : decode b_CS_report 0 = .ok (.iload_n 1, 1) := by decide +kernel
theorem d_CS_report_1 : decode b_CS_report 1 = .ok (.iconst 5, 1) := by decide +kernel
theorem d_CS_report_2 : decode b_CS_report 2 = .ok (.invokestatic 37, 3) := by decide +kernel
theorem d_CS_report_5 : decode b_CS_report 5 = .ok (.aload_n 0, 1) := by decide +kernel
theorem d_CS_report_6 : decode b_CS_report 6 = .ok (.getfield 25, 3) := by decide +kernel
theorem d_CS_report_9 : decode b_CS_report 9 = .ok (.iload_n 1, 1) := by decide +kernel
theorem d_CS_report_10 : decode b_CS_report 10 = .ok (.aaload, 1) := by decide +kernel
theorem d_CS_report_11 : decode b_CS_report 11 = .ok (.getfield 127, 3) := by decide +kernel
theorem d_CS_report_14 : decode b_CS_report 14 = .ok (.ifCond .ne 13, 3) := by decide +kernel
theorem d_CS_report_17 : decode b_CS_report 17 = .ok (.new 137, 3) := by decide +kernel
theorem d_CS_report_20 : decode b_CS_report 20 = .ok (.dup, 1) := by decide +kernel
theorem d_CS_report_21 : decode b_CS_report 21 = .ok (.ldc 149, 2) := by decide +kernel
theorem d_CS_report_23 : decode b_CS_report 23 = .ok (.invokespecial 141, 3) := by decide +kernel
theorem d_CS_report_26 : decode b_CS_report 26 = .ok (.athrow, 1) := by decide +kernel
theorem d_CS_report_27 : decode b_CS_report 27 = .ok (.iconst 0, 1) := by decide +kernel
theorem d_CS_report_28 : decode b_CS_report 28 = .ok (.istore_n 2, 1) := by decide +kernel
theorem d_CS_report_29 : decode b_CS_report 29 = .ok (.iconst 0, 1) := by decide +kernel
theorem d_CS_report_30 : decode b_CS_report 30 = .ok (.istore_n 3, 1) := by decide +kernel
theorem d_CS_report_31 : decode b_CS_report 31 = .ok (.iload_n 3, 1) := by decide +kernel
theorem d_CS_report_32 : decode b_CS_report 32 = .ok (.aload_n 0, 1) := by decide +kernel
theorem d_CS_report_33 : decode b_CS_report 33 = .ok (.getfield 151, 3) := by decide +kernel
theorem d_CS_report_36 : decode b_CS_report 36 = .ok (.if_icmp .ge 34, 3) := by decide +kernel
theorem d_CS_report_39 : decode b_CS_report 39 = .ok (.aload_n 0, 1) := by decide +kernel
theorem d_CS_report_40 : decode b_CS_report 40 = .ok (.getfield 25, 3) := by decide +kernel
theorem d_CS_report_43 : decode b_CS_report 43 = .ok (.iload_n 1, 1) := by decide +kernel
theorem d_CS_report_44 : decode b_CS_report 44 = .ok (.aaload, 1) := by decide +kernel
theorem d_CS_report_45 : decode b_CS_report 45 = .ok (.iload_n 3, 1) := by decide +kernel
theorem d_CS_report_46 : decode b_CS_report 46 = .ok (.invokevirtual 154, 3) := by decide +kernel
theorem d_CS_report_49 : decode b_CS_report 49 = .ok (.ifCond .eq 15, 3) := by decide +kernel
theorem d_CS_report_52 : decode b_CS_report 52 = .ok (.aload_n 0, 1) := by decide +kernel
theorem d_CS_report_53 : decode b_CS_report 53 = .ok (.iload_n 1, 1) := by decide +kernel
theorem d_CS_report_54 : decode b_CS_report 54 = .ok (.iload_n 3, 1) := by decide +kernel
theorem d_CS_report_55 : decode b_CS_report 55 = .ok (.invokevirtual 158, 3) := by decide +kernel
theorem d_CS_report_58 : decode b_CS_report 58 = .ok (.ifCond .ne 6, 3) := by decide +kernel
theorem d_CS_report_61 : decode b_CS_report 61 = .ok (.iinc 2 1, 3) := by decide +kernel
theorem d_CS_report_64 : decode b_CS_report 64 = .ok (.iinc 3 1, 3) := by decide +kernel
theorem d_CS_report_67 : decode b_CS_report 67 = .ok (.goto (-36), 3) := by decide +kernel
theorem d_CS_report_70 : decode b_CS_report 70 = .ok (.iload_n 2, 1) := by decide +kernel
theorem d_CS_report_71 : decode b_CS_report 71 = .ok (.ireturn, 1) := by decide +kernel
theorem d_CS_confirmReplica_0 : decode b_CS_confirmReplica 0 = .ok (.aload_n 0, 1) := by decide +kernel
theorem d_CS_confirmReplica_1 : decode b_CS_confirmReplica 1 = .ok (.getfield 18, 3) := by decide +kernel
theorem d_CS_confirmReplica_4 : decode b_CS_confirmReplica 4 = .ok (.iload_n 2, 1) := by decide +kernel
theorem d_CS_confirmReplica_5 : decode b_CS_confirmReplica 5 = .ok (.aaload, 1) := by decide +kernel
theorem d_CS_confirmReplica_6 : decode b_CS_confirmReplica 6 = .ok (.astore_n 3, 1) := by decide +kernel
theorem d_CS_confirmReplica_7 : decode b_CS_confirmReplica 7 = .ok (.aload_n 3, 1) := by decide +kernel
theorem d_CS_confirmReplica_8 : decode b_CS_confirmReplica 8 = .ok (.getfield 80, 3) := by decide +kernel
theorem d_CS_confirmReplica_11 : decode b_CS_confirmReplica 11 = .ok (.ifCond .eq 21, 3) := by decide +kernel
theorem d_CS_confirmReplica_14 : decode b_CS_confirmReplica 14 = .ok (.aload_n 3, 1) := by decide +kernel
theorem d_CS_confirmReplica_15 : decode b_CS_confirmReplica 15 = .ok (.getfield 110, 3) := by decide +kernel
theorem d_CS_confirmReplica_18 : decode b_CS_confirmReplica 18 = .ok (.aload_n 0, 1) := by decide +kernel
theorem d_CS_confirmReplica_19 : decode b_CS_confirmReplica 19 = .ok (.getfield 25, 3) := by decide +kernel
theorem d_CS_confirmReplica_22 : decode b_CS_confirmReplica 22 = .ok (.iload_n 1, 1) := by decide +kernel
theorem d_CS_confirmReplica_23 : decode b_CS_confirmReplica 23 = .ok (.aaload, 1) := by decide +kernel
theorem d_CS_confirmReplica_24 : decode b_CS_confirmReplica 24 = .ok (.getfield 131, 3) := by decide +kernel
theorem d_CS_confirmReplica_27 : decode b_CS_confirmReplica 27 = .ok (.iload_n 2, 1) := by decide +kernel
theorem d_CS_confirmReplica_28 : decode b_CS_confirmReplica 28 = .ok (.iaload, 1) := by decide +kernel
theorem d_CS_confirmReplica_29 : decode b_CS_confirmReplica 29 = .ok (.if_icmp .le 29, 3) := by decide +kernel
theorem d_CS_confirmReplica_32 : decode b_CS_confirmReplica 32 = .ok (.aload_n 0, 1) := by decide +kernel
theorem d_CS_confirmReplica_33 : decode b_CS_confirmReplica 33 = .ok (.getfield 25, 3) := by decide +kernel
theorem d_CS_confirmReplica_36 : decode b_CS_confirmReplica 36 = .ok (.iload_n 1, 1) := by decide +kernel
theorem d_CS_confirmReplica_37 : decode b_CS_confirmReplica 37 = .ok (.aaload, 1) := by decide +kernel
theorem d_CS_confirmReplica_38 : decode b_CS_confirmReplica 38 = .ok (.iload_n 2, 1) := by decide +kernel
theorem d_CS_confirmReplica_39 : decode b_CS_confirmReplica 39 = .ok (.invokevirtual 268, 3) := by decide +kernel
theorem d_CS_confirmReplica_42 : decode b_CS_confirmReplica 42 = .ok (.aload_n 3, 1) := by decide +kernel
theorem d_CS_confirmReplica_43 : decode b_CS_confirmReplica 43 = .ok (.dup, 1) := by decide +kernel
theorem d_CS_confirmReplica_44 : decode b_CS_confirmReplica 44 = .ok (.getfield 179, 3) := by decide +kernel
theorem d_CS_confirmReplica_47 : decode b_CS_confirmReplica 47 = .ok (.iconst 1, 1) := by decide +kernel
theorem d_CS_confirmReplica_48 : decode b_CS_confirmReplica 48 = .ok (.iload_n 1, 1) := by decide +kernel
theorem d_CS_confirmReplica_49 : decode b_CS_confirmReplica 49 = .ok (.ishl, 1) := by decide +kernel
theorem d_CS_confirmReplica_50 : decode b_CS_confirmReplica 50 = .ok (.iconst (-1), 1) := by decide +kernel
theorem d_CS_confirmReplica_51 : decode b_CS_confirmReplica 51 = .ok (.ixor, 1) := by decide +kernel
theorem d_CS_confirmReplica_52 : decode b_CS_confirmReplica 52 = .ok (.iand, 1) := by decide +kernel
theorem d_CS_confirmReplica_53 : decode b_CS_confirmReplica 53 = .ok (.putfield 179, 3) := by decide +kernel
theorem d_CS_confirmReplica_56 : decode b_CS_confirmReplica 56 = .ok (.iconst 0, 1) := by decide +kernel
theorem d_CS_confirmReplica_57 : decode b_CS_confirmReplica 57 = .ok (.ireturn, 1) := by decide +kernel
theorem d_CS_confirmReplica_58 : decode b_CS_confirmReplica 58 = .ok (.aload_n 3, 1) := by decide +kernel
theorem d_CS_confirmReplica_59 : decode b_CS_confirmReplica 59 = .ok (.dup, 1) := by decide +kernel
theorem d_CS_confirmReplica_60 : decode b_CS_confirmReplica 60 = .ok (.getfield 179, 3) := by decide +kernel
theorem d_CS_confirmReplica_63 : decode b_CS_confirmReplica 63 = .ok (.iconst 1, 1) := by decide +kernel
theorem d_CS_confirmReplica_64 : decode b_CS_confirmReplica 64 = .ok (.iload_n 1, 1) := by decide +kernel
theorem d_CS_confirmReplica_65 : decode b_CS_confirmReplica 65 = .ok (.ishl, 1) := by decide +kernel
theorem d_CS_confirmReplica_66 : decode b_CS_confirmReplica 66 = .ok (.ior, 1) := by decide +kernel
theorem d_CS_confirmReplica_67 : decode b_CS_confirmReplica 67 = .ok (.putfield 179, 3) := by decide +kernel
theorem d_CS_confirmReplica_70 : decode b_CS_confirmReplica 70 = .ok (.iconst 1, 1) := by decide +kernel
theorem d_CS_confirmReplica_71 : decode b_CS_confirmReplica 71 = .ok (.ireturn, 1) := by decide +kernel
theorem d_SV_drop_0 : decode b_SV_drop 0 = .ok (.aload_n 0, 1) := by decide +kernel
theorem d_SV_drop_1 : decode b_SV_drop 1 = .ok (.getfield 9, 3) := by decide +kernel
theorem d_SV_drop_4 : decode b_SV_drop 4 = .ok (.iload_n 1, 1) := by decide +kernel
theorem d_SV_drop_5 : decode b_SV_drop 5 = .ok (.iconst 0, 1) := by decide +kernel
theorem d_SV_drop_6 : decode b_SV_drop 6 = .ok (.iastore, 1) := by decide +kernel
theorem d_SV_drop_7 : decode b_SV_drop 7 = .ok (.aload_n 0, 1) := by decide +kernel
theorem d_SV_drop_8 : decode b_SV_drop 8 = .ok (.dup, 1) := by decide +kernel
theorem d_SV_drop_9 : decode b_SV_drop 9 = .ok (.getfield 25, 3) := by decide +kernel
theorem d_SV_drop_12 : decode b_SV_drop 12 = .ok (.iconst 1, 1) := by decide +kernel
theorem d_SV_drop_13 : decode b_SV_drop 13 = .ok (.isub, 1) := by decide +kernel
theorem d_SV_drop_14 : decode b_SV_drop 14 = .ok (.putfield 25, 3) := by decide +kernel
theorem d_SV_drop_17 : decode b_SV_drop 17 = .ok (.return_, 1) := by decide +kernel
theorem d_CS_repair_0 : decode b_CS_repair 0 = .ok (.aload_n 0, 1) := by decide +kernel
theorem d_CS_repair_1 : decode b_CS_repair 1 = .ok (.invokevirtual 161, 3) := by decide +kernel
theorem d_CS_repair_4 : decode b_CS_repair 4 = .ok (.istore_n 1, 1) := by decide +kernel
theorem d_CS_repair_5 : decode b_CS_repair 5 = .ok (.iload_n 1, 1) := by decide +kernel
theorem d_CS_repair_6 : decode b_CS_repair 6 = .ok (.iconst (-1), 1) := by decide +kernel
theorem d_CS_repair_7 : decode b_CS_repair 7 = .ok (.if_icmp .ne 7, 3) := by decide +kernel
theorem d_CS_repair_10 : decode b_CS_repair 10 = .ok (.iconst (-1), 1) := by decide +kernel
theorem d_CS_repair_11 : decode b_CS_repair 11 = .ok (.goto 9, 3) := by decide +kernel
theorem d_CS_repair_14 : decode b_CS_repair 14 = .ok (.aload_n 0, 1) := by decide +kernel
theorem d_CS_repair_15 : decode b_CS_repair 15 = .ok (.iload_n 1, 1) := by decide +kernel
theorem d_CS_repair_16 : decode b_CS_repair 16 = .ok (.iconst 0, 1) := by decide +kernel
theorem d_CS_repair_17 : decode b_CS_repair 17 = .ok (.invokevirtual 164, 3) := by decide +kernel
theorem d_CS_repair_20 : decode b_CS_repair 20 = .ok (.istore_n 2, 1) := by decide +kernel
theorem d_CS_repair_21 : decode b_CS_repair 21 = .ok (.iload_n 1, 1) := by decide +kernel
theorem d_CS_repair_22 : decode b_CS_repair 22 = .ok (.iconst (-1), 1) := by decide +kernel
theorem d_CS_repair_23 : decode b_CS_repair 23 = .ok (.if_icmp .ne 7, 3) := by decide +kernel
theorem d_CS_repair_26 : decode b_CS_repair 26 = .ok (.iconst (-1), 1) := by decide +kernel
theorem d_CS_repair_27 : decode b_CS_repair 27 = .ok (.goto 11, 3) := by decide +kernel
theorem d_CS_repair_30 : decode b_CS_repair 30 = .ok (.aload_n 0, 1) := by decide +kernel
theorem d_CS_repair_31 : decode b_CS_repair 31 = .ok (.iload_n 1, 1) := by decide +kernel
theorem d_CS_repair_32 : decode b_CS_repair 32 = .ok (.invokevirtual 167, 3) := by decide +kernel
theorem d_CS_repair_35 : decode b_CS_repair 35 = .ok (.invokestatic 170, 3) := by decide +kernel
theorem d_CS_repair_38 : decode b_CS_repair 38 = .ok (.istore_n 3, 1) := by decide +kernel
theorem d_CS_repair_39 : decode b_CS_repair 39 = .ok (.iload_n 2, 1) := by decide +kernel
theorem d_CS_repair_40 : decode b_CS_repair 40 = .ok (.iconst (-1), 1) := by decide +kernel
theorem d_CS_repair_41 : decode b_CS_repair 41 = .ok (.if_icmp .eq 8, 3) := by decide +kernel
theorem d_CS_repair_44 : decode b_CS_repair 44 = .ok (.iload_n 3, 1) := by decide +kernel
theorem d_CS_repair_45 : decode b_CS_repair 45 = .ok (.iconst (-1), 1) := by decide +kernel
theorem d_CS_repair_46 : decode b_CS_repair 46 = .ok (.if_icmp .ne 13, 3) := by decide +kernel
theorem d_CS_repair_49 : decode b_CS_repair 49 = .ok (.new 66, 3) := by decide +kernel
theorem d_CS_repair_52 : decode b_CS_repair 52 = .ok (.dup, 1) := by decide +kernel
theorem d_CS_repair_53 : decode b_CS_repair 53 = .ok (.ldc 173, 2) := by decide +kernel
theorem d_CS_repair_55 : decode b_CS_repair 55 = .ok (.invokespecial 70, 3) := by decide +kernel
theorem d_CS_repair_58 : decode b_CS_repair 58 = .ok (.athrow, 1) := by decide +kernel
theorem d_CS_repair_59 : decode b_CS_repair 59 = .ok (.aload_n 0, 1) := by decide +kernel
theorem d_CS_repair_60 : decode b_CS_repair 60 = .ok (.getfield 25, 3) := by decide +kernel
theorem d_CS_repair_63 : decode b_CS_repair 63 = .ok (.iload_n 2, 1) := by decide +kernel
theorem d_CS_repair_64 : decode b_CS_repair 64 = .ok (.aaload, 1) := by decide +kernel
theorem d_CS_repair_65 : decode b_CS_repair 65 = .ok (.iload_n 1, 1) := by decide +kernel
theorem d_CS_repair_66 : decode b_CS_repair 66 = .ok (.aload_n 0, 1) := by decide +kernel
theorem d_CS_repair_67 : decode b_CS_repair 67 = .ok (.getfield 25, 3) := by decide +kernel
theorem d_CS_repair_70 : decode b_CS_repair 70 = .ok (.iload_n 3, 1) := by decide +kernel
theorem d_CS_repair_71 : decode b_CS_repair 71 = .ok (.aaload, 1) := by decide +kernel
theorem d_CS_repair_72 : decode b_CS_repair 72 = .ok (.iload_n 1, 1) := by decide +kernel
theorem d_CS_repair_73 : decode b_CS_repair 73 = .ok (.aload_n 0, 1) := by decide +kernel
theorem d_CS_repair_74 : decode b_CS_repair 74 = .ok (.getfield 25, 3) := by decide +kernel
theorem d_CS_repair_77 : decode b_CS_repair 77 = .ok (.iload_n 3, 1) := by decide +kernel
theorem d_CS_repair_78 : decode b_CS_repair 78 = .ok (.aaload, 1) := by decide +kernel
theorem d_CS_repair_79 : decode b_CS_repair 79 = .ok (.getfield 131, 3) := by decide +kernel
theorem d_CS_repair_82 : decode b_CS_repair 82 = .ok (.iload_n 1, 1) := by decide +kernel
theorem d_CS_repair_83 : decode b_CS_repair 83 = .ok (.iaload, 1) := by decide +kernel
theorem d_CS_repair_84 : decode b_CS_repair 84 = .ok (.invokevirtual 175, 3) := by decide +kernel
theorem d_CS_repair_87 : decode b_CS_repair 87 = .ok (.aload_n 0, 1) := by decide +kernel
theorem d_CS_repair_88 : decode b_CS_repair 88 = .ok (.getfield 18, 3) := by decide +kernel
theorem d_CS_repair_91 : decode b_CS_repair 91 = .ok (.iload_n 1, 1) := by decide +kernel
theorem d_CS_repair_92 : decode b_CS_repair 92 = .ok (.aaload, 1) := by decide +kernel
theorem d_CS_repair_93 : decode b_CS_repair 93 = .ok (.dup, 1) := by decide +kernel
theorem d_CS_repair_94 : decode b_CS_repair 94 = .ok (.getfield 179, 3) := by decide +kernel
theorem d_CS_repair_97 : decode b_CS_repair 97 = .ok (.iconst 1, 1) := by decide +kernel
theorem d_CS_repair_98 : decode b_CS_repair 98 = .ok (.iload_n 2, 1) := by decide +kernel
theorem d_CS_repair_99 : decode b_CS_repair 99 = .ok (.ishl, 1) := by decide +kernel
theorem d_CS_repair_100 : decode b_CS_repair 100 = .ok (.ior, 1) := by decide +kernel
theorem d_CS_repair_101 : decode b_CS_repair 101 = .ok (.putfield 179, 3) := by decide +kernel
theorem d_CS_repair_104 : decode b_CS_repair 104 = .ok (.bipush 10, 2) := by decide +kernel
theorem d_CS_repair_106 : decode b_CS_repair 106 = .ok (.iload_n 1, 1) := by decide +kernel
theorem d_CS_repair_107 : decode b_CS_repair 107 = .ok (.imul, 1) := by decide +kernel
theorem d_CS_repair_108 : decode b_CS_repair 108 = .ok (.iload_n 2, 1) := by decide +kernel
theorem d_CS_repair_109 : decode b_CS_repair 109 = .ok (.iadd, 1) := by decide +kernel
theorem d_CS_repair_110 : decode b_CS_repair 110 = .ok (.ireturn, 1) := by decide +kernel
theorem d_CS_mostInNeed_0 : decode b_CS_mostInNeed 0 = .ok (.iconst (-1), 1) := by decide +kernel
theorem d_CS_mostInNeed_1 : decode b_CS_mostInNeed 1 = .ok (.istore_n 1, 1) := by decide +kernel
theorem d_CS_mostInNeed_2 : decode b_CS_mostInNeed 2 = .ok (.iconst 3, 1) := by decide +kernel
theorem d_CS_mostInNeed_3 : decode b_CS_mostInNeed 3 = .ok (.istore_n 2, 1) := by decide +kernel
theorem d_CS_mostInNeed_4 : decode b_CS_mostInNeed 4 = .ok (.iconst 0, 1) := by decide +kernel
theorem d_CS_mostInNeed_5 : decode b_CS_mostInNeed 5 = .ok (.istore_n 3, 1) := by decide +kernel
theorem d_CS_mostInNeed_6 : decode b_CS_mostInNeed 6 = .ok (.iload_n 3, 1) := by decide +kernel
theorem d_CS_mostInNeed_7 : decode b_CS_mostInNeed 7 = .ok (.aload_n 0, 1) := by decide +kernel
theorem d_CS_mostInNeed_8 : decode b_CS_mostInNeed 8 = .ok (.getfield 151, 3) := by decide +kernel
theorem d_CS_mostInNeed_11 : decode b_CS_mostInNeed 11 = .ok (.if_icmp .ge 70, 3) := by decide +kernel
theorem d_CS_mostInNeed_14 : decode b_CS_mostInNeed 14 = .ok (.aload_n 0, 1) := by decide +kernel
theorem d_CS_mostInNeed_15 : decode b_CS_mostInNeed 15 = .ok (.iload_n 3, 1) := by decide +kernel
theorem d_CS_mostInNeed_16 : decode b_CS_mostInNeed 16 = .ok (.invokevirtual 167, 3) := by decide +kernel
theorem d_CS_mostInNeed_19 : decode b_CS_mostInNeed 19 = .ok (.invokestatic 205, 3) := by decide +kernel
theorem d_CS_mostInNeed_22 : decode b_CS_mostInNeed 22 = .ok (.istore 4, 2) := by decide +kernel
theorem d_CS_mostInNeed_24 : decode b_CS_mostInNeed 24 = .ok (.aload_n 0, 1) := by decide +kernel
theorem d_CS_mostInNeed_25 : decode b_CS_mostInNeed 25 = .ok (.getfield 18, 3) := by decide +kernel
theorem d_CS_mostInNeed_28 : decode b_CS_mostInNeed 28 = .ok (.iload_n 3, 1) := by decide +kernel
theorem d_CS_mostInNeed_29 : decode b_CS_mostInNeed 29 = .ok (.aaload, 1) := by decide +kernel
theorem d_CS_mostInNeed_30 : decode b_CS_mostInNeed 30 = .ok (.getfield 80, 3) := by decide +kernel
theorem d_CS_mostInNeed_33 : decode b_CS_mostInNeed 33 = .ok (.ifCond .le 19, 3) := by decide +kernel
theorem d_CS_mostInNeed_36 : decode b_CS_mostInNeed 36 = .ok (.iload 4, 2) := by decide +kernel
theorem d_CS_mostInNeed_38 : decode b_CS_mostInNeed 38 = .ok (.iconst 1, 1) := by decide +kernel
theorem d_CS_mostInNeed_39 : decode b_CS_mostInNeed 39 = .ok (.if_icmp .lt 13, 3) := by decide +kernel
theorem d_CS_mostInNeed_42 : decode b_CS_mostInNeed 42 = .ok (.iload 4, 2) := by decide +kernel
theorem d_CS_mostInNeed_44 : decode b_CS_mostInNeed 44 = .ok (.iload_n 2, 1) := by decide +kernel
theorem d_CS_mostInNeed_45 : decode b_CS_mostInNeed 45 = .ok (.if_icmp .ge 7, 3) := by decide +kernel
theorem d_CS_mostInNeed_48 : decode b_CS_mostInNeed 48 = .ok (.iconst 1, 1) := by decide +kernel
theorem d_CS_mostInNeed_49 : decode b_CS_mostInNeed 49 = .ok (.goto 4, 3) := by decide +kernel
theorem d_CS_mostInNeed_52 : decode b_CS_mostInNeed 52 = .ok (.iconst 0, 1) := by decide +kernel
theorem d_CS_mostInNeed_53 : decode b_CS_mostInNeed 53 = .ok (.istore 5, 2) := by decide +kernel
theorem d_CS_mostInNeed_55 : decode b_CS_mostInNeed 55 = .ok (.iload 5, 2) := by decide +kernel
theorem d_CS_mostInNeed_57 : decode b_CS_mostInNeed 57 = .ok (.ifCond .eq 18, 3) := by decide +kernel
theorem d_CS_mostInNeed_60 : decode b_CS_mostInNeed 60 = .ok (.aload_n 0, 1) := by decide +kernel
theorem d_CS_mostInNeed_61 : decode b_CS_mostInNeed 61 = .ok (.iload_n 3, 1) := by decide +kernel
theorem d_CS_mostInNeed_62 : decode b_CS_mostInNeed 62 = .ok (.iconst 0, 1) := by decide +kernel
theorem d_CS_mostInNeed_63 : decode b_CS_mostInNeed 63 = .ok (.invokevirtual 164, 3) := by decide +kernel
theorem d_CS_mostInNeed_66 : decode b_CS_mostInNeed 66 = .ok (.iconst (-1), 1) := by decide +kernel
theorem d_CS_mostInNeed_67 : decode b_CS_mostInNeed 67 = .ok (.if_icmp .eq 8, 3) := by decide +kernel
theorem d_CS_mostInNeed_70 : decode b_CS_mostInNeed 70 = .ok (.iload_n 3, 1) := by decide +kernel
theorem d_CS_mostInNeed_71 : decode b_CS_mostInNeed 71 = .ok (.istore_n 1, 1) := by decide +kernel
theorem d_CS_mostInNeed_72 : decode b_CS_mostInNeed 72 = .ok (.iload 4, 2) := by decide +kernel
theorem d_CS_mostInNeed_74 : decode b_CS_mostInNeed 74 = .ok (.istore_n 2, 1) := by decide +kernel
theorem d_CS_mostInNeed_75 : decode b_CS_mostInNeed 75 = .ok (.iinc 3 1, 3) := by decide +kernel
theorem d_CS_mostInNeed_78 : decode b_CS_mostInNeed 78 = .ok (.goto (-72), 3) := by decide +kernel
theorem d_CS_mostInNeed_81 : decode b_CS_mostInNeed 81 = .ok (.iload_n 1, 1) := by decide +kernel
theorem d_CS_mostInNeed_82 : decode b_CS_mostInNeed 82 = .ok (.ireturn, 1) := by decide +kernel
theorem d_IN_bitCount_0 : decode b_IN_bitCount 0 = .ok (.iload_n 0, 1) := by decide +kernel
theorem d_IN_bitCount_1 : decode b_IN_bitCount 1 = .ok (.iload_n 0, 1) := by decide +kernel
theorem d_IN_bitCount_2 : decode b_IN_bitCount 2 = .ok (.iconst 1, 1) := by decide +kernel
theorem d_IN_bitCount_3 : decode b_IN_bitCount 3 = .ok (.iushr, 1) := by decide +kernel
theorem d_IN_bitCount_4 : decode b_IN_bitCount 4 = .ok (.ldc_w 265, 3) := by decide +kernel
theorem d_IN_bitCount_7 : decode b_IN_bitCount 7 = .ok (.iand, 1) := by decide +kernel
theorem d_IN_bitCount_8 : decode b_IN_bitCount 8 = .ok (.isub, 1) := by decide +kernel
theorem d_IN_bitCount_9 : decode b_IN_bitCount 9 = .ok (.istore_n 0, 1) := by decide +kernel
theorem d_IN_bitCount_10 : decode b_IN_bitCount 10 = .ok (.iload_n 0, 1) := by decide +kernel
theorem d_IN_bitCount_11 : decode b_IN_bitCount 11 = .ok (.ldc_w 266, 3) := by decide +kernel
theorem d_IN_bitCount_14 : decode b_IN_bitCount 14 = .ok (.iand, 1) := by decide +kernel
theorem d_IN_bitCount_15 : decode b_IN_bitCount 15 = .ok (.iload_n 0, 1) := by decide +kernel
theorem d_IN_bitCount_16 : decode b_IN_bitCount 16 = .ok (.iconst 2, 1) := by decide +kernel
theorem d_IN_bitCount_17 : decode b_IN_bitCount 17 = .ok (.iushr, 1) := by decide +kernel
theorem d_IN_bitCount_18 : decode b_IN_bitCount 18 = .ok (.ldc_w 266, 3) := by decide +kernel
theorem d_IN_bitCount_21 : decode b_IN_bitCount 21 = .ok (.iand, 1) := by decide +kernel
theorem d_IN_bitCount_22 : decode b_IN_bitCount 22 = .ok (.iadd, 1) := by decide +kernel
theorem d_IN_bitCount_23 : decode b_IN_bitCount 23 = .ok (.istore_n 0, 1) := by decide +kernel
theorem d_IN_bitCount_24 : decode b_IN_bitCount 24 = .ok (.iload_n 0, 1) := by decide +kernel
theorem d_IN_bitCount_25 : decode b_IN_bitCount 25 = .ok (.iload_n 0, 1) := by decide +kernel
theorem d_IN_bitCount_26 : decode b_IN_bitCount 26 = .ok (.iconst 4, 1) := by decide +kernel
theorem d_IN_bitCount_27 : decode b_IN_bitCount 27 = .ok (.iushr, 1) := by decide +kernel
theorem d_IN_bitCount_28 : decode b_IN_bitCount 28 = .ok (.iadd, 1) := by decide +kernel
theorem d_IN_bitCount_29 : decode b_IN_bitCount 29 = .ok (.ldc_w 267, 3) := by decide +kernel
theorem d_IN_bitCount_32 : decode b_IN_bitCount 32 = .ok (.iand, 1) := by decide +kernel
theorem d_IN_bitCount_33 : decode b_IN_bitCount 33 = .ok (.istore_n 0, 1) := by decide +kernel
theorem d_IN_bitCount_34 : decode b_IN_bitCount 34 = .ok (.iload_n 0, 1) := by decide +kernel
theorem d_IN_bitCount_35 : decode b_IN_bitCount 35 = .ok (.iload_n 0, 1) := by decide +kernel
theorem d_IN_bitCount_36 : decode b_IN_bitCount 36 = .ok (.bipush 8, 2) := by decide +kernel
theorem d_IN_bitCount_38 : decode b_IN_bitCount 38 = .ok (.iushr, 1) := by decide +kernel
theorem d_IN_bitCount_39 : decode b_IN_bitCount 39 = .ok (.iadd, 1) := by decide +kernel
theorem d_IN_bitCount_40 : decode b_IN_bitCount 40 = .ok (.istore_n 0, 1) := by decide +kernel
theorem d_IN_bitCount_41 : decode b_IN_bitCount 41 = .ok (.iload_n 0, 1) := by decide +kernel
theorem d_IN_bitCount_42 : decode b_IN_bitCount 42 = .ok (.iload_n 0, 1) := by decide +kernel
theorem d_IN_bitCount_43 : decode b_IN_bitCount 43 = .ok (.bipush 16, 2) := by decide +kernel
theorem d_IN_bitCount_45 : decode b_IN_bitCount 45 = .ok (.iushr, 1) := by decide +kernel
theorem d_IN_bitCount_46 : decode b_IN_bitCount 46 = .ok (.iadd, 1) := by decide +kernel
theorem d_IN_bitCount_47 : decode b_IN_bitCount 47 = .ok (.istore_n 0, 1) := by decide +kernel
theorem d_IN_bitCount_48 : decode b_IN_bitCount 48 = .ok (.iload_n 0, 1) := by decide +kernel
theorem d_IN_bitCount_49 : decode b_IN_bitCount 49 = .ok (.bipush 63, 2) := by decide +kernel
theorem d_IN_bitCount_51 : decode b_IN_bitCount 51 = .ok (.iand, 1) := by decide +kernel
theorem d_IN_bitCount_52 : decode b_IN_bitCount 52 = .ok (.ireturn, 1) := by decide +kernel
theorem d_CS_tick_0 : decode b_CS_tick 0 = .ok (.dload_n 1, 1) := by decide +kernel
theorem d_CS_tick_1 : decode b_CS_tick 1 = .ok (.dconst 0, 1) := by decide +kernel
theorem d_CS_tick_2 : decode b_CS_tick 2 = .ok (.dcmp .l, 1) := by decide +kernel
theorem d_CS_tick_3 : decode b_CS_tick 3 = .ok (.ifCond .lt 11, 3) := by decide +kernel
theorem d_CS_tick_6 : decode b_CS_tick 6 = .ok (.dload_n 1, 1) := by decide +kernel
theorem d_CS_tick_7 : decode b_CS_tick 7 = .ok (.ldc2_w 186, 3) := by decide +kernel
theorem d_CS_tick_10 : decode b_CS_tick 10 = .ok (.dcmp .g, 1) := by decide +kernel
theorem d_CS_tick_11 : decode b_CS_tick 11 = .ok (.ifCond .le 13, 3) := by decide +kernel
theorem d_CS_tick_14 : decode b_CS_tick 14 = .ok (.new 188, 3) := by decide +kernel
theorem d_CS_tick_17 : decode b_CS_tick 17 = .ok (.dup, 1) := by decide +kernel
theorem d_CS_tick_18 : decode b_CS_tick 18 = .ok (.ldc 190, 2) := by decide +kernel
theorem d_CS_tick_20 : decode b_CS_tick 20 = .ok (.invokespecial 192, 3) := by decide +kernel
theorem d_CS_tick_23 : decode b_CS_tick 23 = .ok (.athrow, 1) := by decide +kernel
theorem d_CS_tick_24 : decode b_CS_tick 24 = .ok (.aload_n 0, 1) := by decide +kernel
theorem d_CS_tick_25 : decode b_CS_tick 25 = .ok (.dup, 1) := by decide +kernel
theorem d_CS_tick_26 : decode b_CS_tick 26 = .ok (.getfield 56, 3) := by decide +kernel
theorem d_CS_tick_29 : decode b_CS_tick 29 = .ok (.dload_n 1, 1) := by decide +kernel
theorem d_CS_tick_30 : decode b_CS_tick 30 = .ok (.dadd, 1) := by decide +kernel
theorem d_CS_tick_31 : decode b_CS_tick 31 = .ok (.putfield 56, 3) := by decide +kernel
theorem d_CS_tick_34 : decode b_CS_tick 34 = .ok (.aload_n 0, 1) := by decide +kernel
theorem d_CS_tick_35 : decode b_CS_tick 35 = .ok (.getfield 56, 3) := by decide +kernel
theorem d_CS_tick_38 : decode b_CS_tick 38 = .ok (.dreturn, 1) := by decide +kernel
theorem d_CS_load_0 : decode b_CS_load 0 = .ok (.iconst 0, 1) := by decide +kernel
theorem d_CS_load_1 : decode b_CS_load 1 = .ok (.istore_n 1, 1) := by decide +kernel
theorem d_CS_load_2 : decode b_CS_load 2 = .ok (.iconst 0, 1) := by decide +kernel
theorem d_CS_load_3 : decode b_CS_load 3 = .ok (.istore_n 2, 1) := by decide +kernel
theorem d_CS_load_4 : decode b_CS_load 4 = .ok (.iconst 0, 1) := by decide +kernel
theorem d_CS_load_5 : decode b_CS_load 5 = .ok (.istore_n 3, 1) := by decide +kernel
theorem d_CS_load_6 : decode b_CS_load 6 = .ok (.iload_n 3, 1) := by decide +kernel
theorem d_CS_load_7 : decode b_CS_load 7 = .ok (.iconst 5, 1) := by decide +kernel
theorem d_CS_load_8 : decode b_CS_load 8 = .ok (.if_icmp .ge 36, 3) := by decide +kernel
theorem d_CS_load_11 : decode b_CS_load 11 = .ok (.aload_n 0, 1) := by decide +kernel
theorem d_CS_load_12 : decode b_CS_load 12 = .ok (.getfield 25, 3) := by decide +kernel
theorem d_CS_load_15 : decode b_CS_load 15 = .ok (.iload_n 3, 1) := by decide +kernel
theorem d_CS_load_16 : decode b_CS_load 16 = .ok (.aaload, 1) := by decide +kernel
theorem d_CS_load_17 : decode b_CS_load 17 = .ok (.getfield 127, 3) := by decide +kernel
theorem d_CS_load_20 : decode b_CS_load 20 = .ok (.ifCond .eq 18, 3) := by decide +kernel
theorem d_CS_load_23 : decode b_CS_load 23 = .ok (.iinc 1 1, 3) := by decide +kernel
theorem d_CS_load_26 : decode b_CS_load 26 = .ok (.iload_n 2, 1) := by decide +kernel
theorem d_CS_load_27 : decode b_CS_load 27 = .ok (.aload_n 0, 1) := by decide +kernel
theorem d_CS_load_28 : decode b_CS_load 28 = .ok (.getfield 25, 3) := by decide +kernel
theorem d_CS_load_31 : decode b_CS_load 31 = .ok (.iload_n 3, 1) := by decide +kernel
theorem d_CS_load_32 : decode b_CS_load 32 = .ok (.aaload, 1) := by decide +kernel
theorem d_CS_load_33 : decode b_CS_load 33 = .ok (.getfield 146, 3) := by decide +kernel
theorem d_CS_load_36 : decode b_CS_load 36 = .ok (.iadd, 1) := by decide +kernel
theorem d_CS_load_37 : decode b_CS_load 37 = .ok (.istore_n 2, 1) := by decide +kernel
theorem d_CS_load_38 : decode b_CS_load 38 = .ok (.iinc 3 1, 3) := by decide +kernel
theorem d_CS_load_41 : decode b_CS_load 41 = .ok (.goto (-35), 3) := by decide +kernel
theorem d_CS_load_44 : decode b_CS_load 44 = .ok (.iload_n 1, 1) := by decide +kernel
theorem d_CS_load_45 : decode b_CS_load 45 = .ok (.ifCond .ne 13, 3) := by decide +kernel
theorem d_CS_load_48 : decode b_CS_load 48 = .ok (.new 193, 3) := by decide +kernel
theorem d_CS_load_51 : decode b_CS_load 51 = .ok (.dup, 1) := by decide +kernel
theorem d_CS_load_52 : decode b_CS_load 52 = .ok (.ldc 195, 2) := by decide +kernel
theorem d_CS_load_54 : decode b_CS_load 54 = .ok (.invokespecial 197, 3) := by decide +kernel
theorem d_CS_load_57 : decode b_CS_load 57 = .ok (.athrow, 1) := by decide +kernel
theorem d_CS_load_58 : decode b_CS_load 58 = .ok (.iload_n 2, 1) := by decide +kernel
theorem d_CS_load_59 : decode b_CS_load 59 = .ok (.i2d, 1) := by decide +kernel
theorem d_CS_load_60 : decode b_CS_load 60 = .ok (.iload_n 1, 1) := by decide +kernel
theorem d_CS_load_61 : decode b_CS_load 61 = .ok (.i2d, 1) := by decide +kernel
theorem d_CS_load_62 : decode b_CS_load 62 = .ok (.ddiv, 1) := by decide +kernel
theorem d_CS_load_63 : decode b_CS_load 63 = .ok (.dreturn, 1) := by decide +kernel
theorem d_CS_look_0 : decode b_CS_look 0 = .ok (.iload_n 1, 1) := by decide +kernel
theorem d_CS_look_1 : decode b_CS_look 1 = .ok (.iconst 5, 1) := by decide +kernel
theorem d_CS_look_2 : decode b_CS_look 2 = .ok (.invokestatic 37, 3) := by decide +kernel
theorem d_CS_look_5 : decode b_CS_look 5 = .ok (.iload_n 2, 1) := by decide +kernel
theorem d_CS_look_6 : decode b_CS_look 6 = .ok (.bipush 30, 2) := by decide +kernel
theorem d_CS_look_8 : decode b_CS_look 8 = .ok (.invokestatic 37, 3) := by decide +kernel
theorem d_CS_look_11 : decode b_CS_look 11 = .ok (.iload_n 3, 1) := by decide +kernel
theorem d_CS_look_12 : decode b_CS_look 12 = .ok (.bipush 6, 2) := by decide +kernel
theorem d_CS_look_14 : decode b_CS_look 14 = .ok (.invokestatic 37, 3) := by decide +kernel
theorem d_CS_look_17 : decode b_CS_look 17 = .ok (.aload_n 0, 1) := by decide +kernel
theorem d_CS_look_18 : decode b_CS_look 18 = .ok (.getfield 25, 3) := by decide +kernel
theorem d_CS_look_21 : decode b_CS_look 21 = .ok (.iload_n 1, 1) := by decide +kernel
theorem d_CS_look_22 : decode b_CS_look 22 = .ok (.aaload, 1) := by decide +kernel
theorem d_CS_look_23 : decode b_CS_look 23 = .ok (.astore 4, 2) := by decide +kernel
theorem d_CS_look_25 : decode b_CS_look 25 = .ok (.aload 4, 2) := by decide +kernel
theorem d_CS_look_27 : decode b_CS_look 27 = .ok (.iload_n 2, 1) := by decide +kernel
theorem d_CS_look_28 : decode b_CS_look 28 = .ok (.invokevirtual 154, 3) := by decide +kernel
theorem d_CS_look_31 : decode b_CS_look 31 = .ok (.ifCond .ne 13, 3) := by decide +kernel
theorem d_CS_look_34 : decode b_CS_look 34 = .ok (.new 66, 3) := by decide +kernel
theorem d_CS_look_37 : decode b_CS_look 37 = .ok (.dup, 1) := by decide +kernel
theorem d_CS_look_38 : decode b_CS_look 38 = .ok (.ldc 198, 2) := by decide +kernel
theorem d_CS_look_40 : decode b_CS_look 40 = .ok (.invokespecial 70, 3) := by decide +kernel
theorem d_CS_look_43 : decode b_CS_look 43 = .ok (.athrow, 1) := by decide +kernel
theorem d_CS_look_44 : decode b_CS_look 44 = .ok (.iload_n 3, 1) := by decide +kernel
theorem d_CS_look_45 : decode b_CS_look 45 = .ok (.ifCond .ne 11, 3) := by decide +kernel
theorem d_CS_look_48 : decode b_CS_look 48 = .ok (.aload 4, 2) := by decide +kernel
theorem d_CS_look_50 : decode b_CS_look 50 = .ok (.getfield 131, 3) := by decide +kernel
theorem d_CS_look_53 : decode b_CS_look 53 = .ok (.iload_n 2, 1) := by decide +kernel
theorem d_CS_look_54 : decode b_CS_look 54 = .ok (.iaload, 1) := by decide +kernel
theorem d_CS_look_55 : decode b_CS_look 55 = .ok (.ireturn, 1) := by decide +kernel
theorem d_CS_look_56 : decode b_CS_look 56 = .ok (.iload_n 3, 1) := by decide +kernel
theorem d_CS_look_57 : decode b_CS_look 57 = .ok (.iconst 1, 1) := by decide +kernel
theorem d_CS_look_58 : decode b_CS_look 58 = .ok (.if_icmp .ne 13, 3) := by decide +kernel
theorem d_CS_look_61 : decode b_CS_look 61 = .ok (.aload 4, 2) := by decide +kernel
theorem d_CS_look_63 : decode b_CS_look 63 = .ok (.getfield 200, 3) := by decide +kernel
theorem d_CS_look_66 : decode b_CS_look 66 = .ok (.iload_n 2, 1) := by decide +kernel
theorem d_CS_look_67 : decode b_CS_look 67 = .ok (.iaload, 1) := by decide +kernel
theorem d_CS_look_68 : decode b_CS_look 68 = .ok (.goto 12, 3) := by decide +kernel
theorem d_CS_look_71 : decode b_CS_look 71 = .ok (.aload 4, 2) := by decide +kernel
theorem d_CS_look_73 : decode b_CS_look 73 = .ok (.iload_n 2, 1) := by decide +kernel
theorem d_CS_look_74 : decode b_CS_look 74 = .ok (.iload_n 3, 1) := by decide +kernel
theorem d_CS_look_75 : decode b_CS_look 75 = .ok (.iconst 2, 1) := by decide +kernel
theorem d_CS_look_76 : decode b_CS_look 76 = .ok (.isub, 1) := by decide +kernel
theorem d_CS_look_77 : decode b_CS_look 77 = .ok (.invokevirtual 142, 3) := by decide +kernel
theorem d_CS_look_80 : decode b_CS_look 80 = .ok (.ireturn, 1) := by decide +kernel
theorem d_CS_file_0 : decode b_CS_file 0 = .ok (.iload_n 1, 1) := by decide +kernel
theorem d_CS_file_1 : decode b_CS_file 1 = .ok (.bipush 8, 2) := by decide +kernel
theorem d_CS_file_3 : decode b_CS_file 3 = .ok (.invokestatic 37, 3) := by decide +kernel
theorem d_CS_file_6 : decode b_CS_file 6 = .ok (.iload_n 2, 1) := by decide +kernel
theorem d_CS_file_7 : decode b_CS_file 7 = .ok (.iconst 5, 1) := by decide +kernel
theorem d_CS_file_8 : decode b_CS_file 8 = .ok (.invokestatic 37, 3) := by decide +kernel
theorem d_CS_file_11 : decode b_CS_file 11 = .ok (.aload_n 0, 1) := by decide +kernel
theorem d_CS_file_12 : decode b_CS_file 12 = .ok (.getfield 11, 3) := by decide +kernel
theorem d_CS_file_15 : decode b_CS_file 15 = .ok (.iload_n 1, 1) := by decide +kernel
theorem d_CS_file_16 : decode b_CS_file 16 = .ok (.aaload, 1) := by decide +kernel
theorem d_CS_file_17 : decode b_CS_file 17 = .ok (.astore_n 3, 1) := by decide +kernel
theorem d_CS_file_18 : decode b_CS_file 18 = .ok (.iload_n 2, 1) := by decide +kernel
theorem d_CS_file_19 : decode b_CS_file 19 = .ok (.ifCond .ne 8, 3) := by decide +kernel
theorem d_CS_file_22 : decode b_CS_file 22 = .ok (.aload_n 3, 1) := by decide +kernel
theorem d_CS_file_23 : decode b_CS_file 23 = .ok (.getfield 45, 3) := by decide +kernel
theorem d_CS_file_26 : decode b_CS_file 26 = .ok (.ireturn, 1) := by decide +kernel
theorem d_CS_file_27 : decode b_CS_file 27 = .ok (.iload_n 2, 1) := by decide +kernel
theorem d_CS_file_28 : decode b_CS_file 28 = .ok (.iconst 1, 1) := by decide +kernel
theorem d_CS_file_29 : decode b_CS_file 29 = .ok (.if_icmp .ne 8, 3) := by decide +kernel
theorem d_CS_file_32 : decode b_CS_file 32 = .ok (.aload_n 3, 1) := by decide +kernel
theorem d_CS_file_33 : decode b_CS_file 33 = .ok (.getfield 63, 3) := by decide +kernel
theorem d_CS_file_36 : decode b_CS_file 36 = .ok (.ireturn, 1) := by decide +kernel
theorem d_CS_file_37 : decode b_CS_file 37 = .ok (.iload_n 2, 1) := by decide +kernel
theorem d_CS_file_38 : decode b_CS_file 38 = .ok (.iconst 2, 1) := by decide +kernel
theorem d_CS_file_39 : decode b_CS_file 39 = .ok (.isub, 1) := by decide +kernel
theorem d_CS_file_40 : decode b_CS_file 40 = .ok (.aload_n 3, 1) := by decide +kernel
theorem d_CS_file_41 : decode b_CS_file 41 = .ok (.getfield 63, 3) := by decide +kernel
theorem d_CS_file_44 : decode b_CS_file 44 = .ok (.if_icmp .ge 14, 3) := by decide +kernel
theorem d_CS_file_47 : decode b_CS_file 47 = .ok (.aload_n 3, 1) := by decide +kernel
theorem d_CS_file_48 : decode b_CS_file 48 = .ok (.getfield 73, 3) := by decide +kernel
theorem d_CS_file_51 : decode b_CS_file 51 = .ok (.iload_n 2, 1) := by decide +kernel
theorem d_CS_file_52 : decode b_CS_file 52 = .ok (.iconst 2, 1) := by decide +kernel
theorem d_CS_file_53 : decode b_CS_file 53 = .ok (.isub, 1) := by decide +kernel
theorem d_CS_file_54 : decode b_CS_file 54 = .ok (.iaload, 1) := by decide +kernel
theorem d_CS_file_55 : decode b_CS_file 55 = .ok (.goto 4, 3) := by decide +kernel
theorem d_CS_file_58 : decode b_CS_file 58 = .ok (.iconst (-1), 1) := by decide +kernel
theorem d_CS_file_59 : decode b_CS_file 59 = .ok (.ireturn, 1) := by decide +kernel
theorem d_CS_chunk_0 : decode b_CS_chunk 0 = .ok (.iload_n 1, 1) := by decide +kernel
theorem d_CS_chunk_1 : decode b_CS_chunk 1 = .ok (.bipush 30, 2) := by decide +kernel
theorem d_CS_chunk_3 : decode b_CS_chunk 3 = .ok (.invokestatic 37, 3) := by decide +kernel
theorem d_CS_chunk_6 : decode b_CS_chunk 6 = .ok (.iload_n 2, 1) := by decide +kernel
theorem d_CS_chunk_7 : decode b_CS_chunk 7 = .ok (.iconst 5, 1) := by decide +kernel
theorem d_CS_chunk_8 : decode b_CS_chunk 8 = .ok (.invokestatic 37, 3) := by decide +kernel
theorem d_CS_chunk_11 : decode b_CS_chunk 11 = .ok (.iload_n 1, 1) := by decide +kernel
theorem d_CS_chunk_12 : decode b_CS_chunk 12 = .ok (.aload_n 0, 1) := by decide +kernel
theorem d_CS_chunk_13 : decode b_CS_chunk 13 = .ok (.getfield 151, 3) := by decide +kernel
theorem d_CS_chunk_16 : decode b_CS_chunk 16 = .ok (.if_icmp .lt 13, 3) := by decide +kernel
theorem d_CS_chunk_19 : decode b_CS_chunk 19 = .ok (.new 66, 3) := by decide +kernel
theorem d_CS_chunk_22 : decode b_CS_chunk 22 = .ok (.dup, 1) := by decide +kernel
theorem d_CS_chunk_23 : decode b_CS_chunk 23 = .ok (.ldc 203, 2) := by decide +kernel
theorem d_CS_chunk_25 : decode b_CS_chunk 25 = .ok (.invokespecial 70, 3) := by decide +kernel
theorem d_CS_chunk_28 : decode b_CS_chunk 28 = .ok (.athrow, 1) := by decide +kernel
theorem d_CS_chunk_29 : decode b_CS_chunk 29 = .ok (.aload_n 0, 1) := by decide +kernel
theorem d_CS_chunk_30 : decode b_CS_chunk 30 = .ok (.getfield 18, 3) := by decide +kernel
theorem d_CS_chunk_33 : decode b_CS_chunk 33 = .ok (.iload_n 1, 1) := by decide +kernel
theorem d_CS_chunk_34 : decode b_CS_chunk 34 = .ok (.aaload, 1) := by decide +kernel
theorem d_CS_chunk_35 : decode b_CS_chunk 35 = .ok (.astore_n 3, 1) := by decide +kernel
theorem d_CS_chunk_36 : decode b_CS_chunk 36 = .ok (.iload_n 2, 1) := by decide +kernel
theorem d_CS_chunk_37 : decode b_CS_chunk 37 = .ok (.tableswitch 55 0 3 #[31, 36, 41, 46], 31) := by decide +kernel
theorem d_CS_chunk_68 : decode b_CS_chunk 68 = .ok (.aload_n 3, 1) := by decide +kernel
theorem d_CS_chunk_69 : decode b_CS_chunk 69 = .ok (.getfield 110, 3) := by decide +kernel
theorem d_CS_chunk_72 : decode b_CS_chunk 72 = .ok (.ireturn, 1) := by decide +kernel
theorem d_CS_chunk_73 : decode b_CS_chunk 73 = .ok (.aload_n 3, 1) := by decide +kernel
theorem d_CS_chunk_74 : decode b_CS_chunk 74 = .ok (.getfield 80, 3) := by decide +kernel
theorem d_CS_chunk_77 : decode b_CS_chunk 77 = .ok (.ireturn, 1) := by decide +kernel
theorem d_CS_chunk_78 : decode b_CS_chunk 78 = .ok (.aload_n 3, 1) := by decide +kernel
theorem d_CS_chunk_79 : decode b_CS_chunk 79 = .ok (.getfield 179, 3) := by decide +kernel
theorem d_CS_chunk_82 : decode b_CS_chunk 82 = .ok (.ireturn, 1) := by decide +kernel
theorem d_CS_chunk_83 : decode b_CS_chunk 83 = .ok (.aload_n 0, 1) := by decide +kernel
theorem d_CS_chunk_84 : decode b_CS_chunk 84 = .ok (.iload_n 1, 1) := by decide +kernel
theorem d_CS_chunk_85 : decode b_CS_chunk 85 = .ok (.invokevirtual 167, 3) := by decide +kernel
theorem d_CS_chunk_88 : decode b_CS_chunk 88 = .ok (.invokestatic 205, 3) := by decide +kernel
theorem d_CS_chunk_91 : decode b_CS_chunk 91 = .ok (.ireturn, 1) := by decide +kernel
theorem d_CS_chunk_92 : decode b_CS_chunk 92 = .ok (.aload_n 0, 1) := by decide +kernel
theorem d_CS_chunk_93 : decode b_CS_chunk 93 = .ok (.aload_n 3, 1) := by decide +kernel
theorem d_CS_chunk_94 : decode b_CS_chunk 94 = .ok (.invokevirtual 210, 3) := by decide +kernel
theorem d_CS_chunk_97 : decode b_CS_chunk 97 = .ok (.ifCond .eq 7, 3) := by decide +kernel
theorem d_CS_chunk_100 : decode b_CS_chunk 100 = .ok (.iconst 1, 1) := by decide +kernel
theorem d_CS_chunk_101 : decode b_CS_chunk 101 = .ok (.goto 4, 3) := by decide +kernel
theorem d_CS_chunk_104 : decode b_CS_chunk 104 = .ok (.iconst 0, 1) := by decide +kernel
theorem d_CS_chunk_105 : decode b_CS_chunk 105 = .ok (.ireturn, 1) := by decide +kernel
end XDEC
