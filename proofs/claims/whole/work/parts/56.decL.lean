section XDL
abbrev b_LW_law : ByteArray := code
theorem d_LW_create_0 : decode b_LW_create 0 = .ok (.aload_n 2, 1) := by decide +kernel
theorem d_LW_create_1 : decode b_LW_create 1 = .ok (.iconst 0, 1) := by decide +kernel
theorem d_LW_create_2 : decode b_LW_create 2 = .ok (.aload_n 0, 1) := by decide +kernel
theorem d_LW_create_3 : decode b_LW_create 3 = .ok (.iload_n 1, 1) := by decide +kernel
theorem d_LW_create_4 : decode b_LW_create 4 = .ok (.invokevirtual 7, 3) := by decide +kernel
theorem d_LW_create_7 : decode b_LW_create 7 = .ok (.i2l, 1) := by decide +kernel
theorem d_LW_create_8 : decode b_LW_create 8 = .ok (.lastore, 1) := by decide +kernel
theorem d_LW_create_9 : decode b_LW_create 9 = .ok (.goto 9, 3) := by decide +kernel
theorem d_LW_create_12 : decode b_LW_create 12 = .ok (.astore_n 3, 1) := by decide +kernel
theorem d_LW_create_13 : decode b_LW_create 13 = .ok (.iconst 1, 1) := by decide +kernel
theorem d_LW_create_14 : decode b_LW_create 14 = .ok (.ireturn, 1) := by decide +kernel
theorem d_LW_create_15 : decode b_LW_create 15 = .ok (.astore_n 3, 1) := by decide +kernel
theorem d_LW_create_16 : decode b_LW_create 16 = .ok (.iconst 2, 1) := by decide +kernel
theorem d_LW_create_17 : decode b_LW_create 17 = .ok (.ireturn, 1) := by decide +kernel
theorem d_LW_create_18 : decode b_LW_create 18 = .ok (.iconst 0, 1) := by decide +kernel
theorem d_LW_create_19 : decode b_LW_create 19 = .ok (.ireturn, 1) := by decide +kernel
theorem d_LW_remove_0 : decode b_LW_remove 0 = .ok (.aload_n 2, 1) := by decide +kernel
theorem d_LW_remove_1 : decode b_LW_remove 1 = .ok (.iconst 0, 1) := by decide +kernel
theorem d_LW_remove_2 : decode b_LW_remove 2 = .ok (.aload_n 0, 1) := by decide +kernel
theorem d_LW_remove_3 : decode b_LW_remove 3 = .ok (.iload_n 1, 1) := by decide +kernel
theorem d_LW_remove_4 : decode b_LW_remove 4 = .ok (.invokevirtual 17, 3) := by decide +kernel
theorem d_LW_remove_7 : decode b_LW_remove 7 = .ok (.i2l, 1) := by decide +kernel
theorem d_LW_remove_8 : decode b_LW_remove 8 = .ok (.lastore, 1) := by decide +kernel
theorem d_LW_remove_9 : decode b_LW_remove 9 = .ok (.goto 9, 3) := by decide +kernel
theorem d_LW_remove_12 : decode b_LW_remove 12 = .ok (.astore_n 3, 1) := by decide +kernel
theorem d_LW_remove_13 : decode b_LW_remove 13 = .ok (.iconst 1, 1) := by decide +kernel
theorem d_LW_remove_14 : decode b_LW_remove 14 = .ok (.ireturn, 1) := by decide +kernel
theorem d_LW_remove_15 : decode b_LW_remove 15 = .ok (.astore_n 3, 1) := by decide +kernel
theorem d_LW_remove_16 : decode b_LW_remove 16 = .ok (.iconst 2, 1) := by decide +kernel
theorem d_LW_remove_17 : decode b_LW_remove 17 = .ok (.ireturn, 1) := by decide +kernel
theorem d_LW_remove_18 : decode b_LW_remove 18 = .ok (.iconst 0, 1) := by decide +kernel
theorem d_LW_remove_19 : decode b_LW_remove 19 = .ok (.ireturn, 1) := by decide +kernel
theorem d_LW_restore_0 : decode b_LW_restore 0 = .ok (.aload_n 2, 1) := by decide +kernel
theorem d_LW_restore_1 : decode b_LW_restore 1 = .ok (.iconst 0, 1) := by decide +kernel
theorem d_LW_restore_2 : decode b_LW_restore 2 = .ok (.aload_n 0, 1) := by decide +kernel
theorem d_LW_restore_3 : decode b_LW_restore 3 = .ok (.iload_n 1, 1) := by decide +kernel
theorem d_LW_restore_4 : decode b_LW_restore 4 = .ok (.invokevirtual 22, 3) := by decide +kernel
theorem d_LW_restore_7 : decode b_LW_restore 7 = .ok (.i2l, 1) := by decide +kernel
theorem d_LW_restore_8 : decode b_LW_restore 8 = .ok (.lastore, 1) := by decide +kernel
theorem d_LW_restore_9 : decode b_LW_restore 9 = .ok (.goto 9, 3) := by decide +kernel
theorem d_LW_restore_12 : decode b_LW_restore 12 = .ok (.astore_n 3, 1) := by decide +kernel
theorem d_LW_restore_13 : decode b_LW_restore 13 = .ok (.iconst 1, 1) := by decide +kernel
theorem d_LW_restore_14 : decode b_LW_restore 14 = .ok (.ireturn, 1) := by decide +kernel
theorem d_LW_restore_15 : decode b_LW_restore 15 = .ok (.astore_n 3, 1) := by decide +kernel
theorem d_LW_restore_16 : decode b_LW_restore 16 = .ok (.iconst 2, 1) := by decide +kernel
theorem d_LW_restore_17 : decode b_LW_restore 17 = .ok (.ireturn, 1) := by decide +kernel
theorem d_LW_restore_18 : decode b_LW_restore 18 = .ok (.iconst 0, 1) := by decide +kernel
theorem d_LW_restore_19 : decode b_LW_restore 19 = .ok (.ireturn, 1) := by decide +kernel
theorem d_LW_copy_0 : decode b_LW_copy 0 = .ok (.aload_n 3, 1) := by decide +kernel
theorem d_LW_copy_1 : decode b_LW_copy 1 = .ok (.iconst 0, 1) := by decide +kernel
theorem d_LW_copy_2 : decode b_LW_copy 2 = .ok (.aload_n 0, 1) := by decide +kernel
theorem d_LW_copy_3 : decode b_LW_copy 3 = .ok (.iload_n 1, 1) := by decide +kernel
theorem d_LW_copy_4 : decode b_LW_copy 4 = .ok (.iload_n 2, 1) := by decide +kernel
theorem d_LW_copy_5 : decode b_LW_copy 5 = .ok (.invokevirtual 25, 3) := by decide +kernel
theorem d_LW_copy_8 : decode b_LW_copy 8 = .ok (.i2l, 1) := by decide +kernel
theorem d_LW_copy_9 : decode b_LW_copy 9 = .ok (.lastore, 1) := by decide +kernel
theorem d_LW_copy_10 : decode b_LW_copy 10 = .ok (.goto 15, 3) := by decide +kernel
theorem d_LW_copy_13 : decode b_LW_copy 13 = .ok (.astore 4, 2) := by decide +kernel
theorem d_LW_copy_15 : decode b_LW_copy 15 = .ok (.iconst 1, 1) := by decide +kernel
theorem d_LW_copy_16 : decode b_LW_copy 16 = .ok (.ireturn, 1) := by decide +kernel
theorem d_LW_copy_17 : decode b_LW_copy 17 = .ok (.astore 4, 2) := by decide +kernel
theorem d_LW_copy_19 : decode b_LW_copy 19 = .ok (.iconst 2, 1) := by decide +kernel
theorem d_LW_copy_20 : decode b_LW_copy 20 = .ok (.ireturn, 1) := by decide +kernel
theorem d_LW_copy_21 : decode b_LW_copy 21 = .ok (.astore 4, 2) := by decide +kernel
theorem d_LW_copy_23 : decode b_LW_copy 23 = .ok (.iconst 3, 1) := by decide +kernel
theorem d_LW_copy_24 : decode b_LW_copy 24 = .ok (.ireturn, 1) := by decide +kernel
theorem d_LW_copy_25 : decode b_LW_copy 25 = .ok (.iconst 0, 1) := by decide +kernel
theorem d_LW_copy_26 : decode b_LW_copy 26 = .ok (.ireturn, 1) := by decide +kernel
theorem d_LW_extend_0 : decode b_LW_extend 0 = .ok (.aload_n 2, 1) := by decide +kernel
theorem d_LW_extend_1 : decode b_LW_extend 1 = .ok (.iconst 0, 1) := by decide +kernel
theorem d_LW_extend_2 : decode b_LW_extend 2 = .ok (.aload_n 0, 1) := by decide +kernel
theorem d_LW_extend_3 : decode b_LW_extend 3 = .ok (.iload_n 1, 1) := by decide +kernel
theorem d_LW_extend_4 : decode b_LW_extend 4 = .ok (.invokevirtual 29, 3) := by decide +kernel
theorem d_LW_extend_7 : decode b_LW_extend 7 = .ok (.i2l, 1) := by decide +kernel
theorem d_LW_extend_8 : decode b_LW_extend 8 = .ok (.lastore, 1) := by decide +kernel
theorem d_LW_extend_9 : decode b_LW_extend 9 = .ok (.goto 15, 3) := by decide +kernel
theorem d_LW_extend_12 : decode b_LW_extend 12 = .ok (.astore_n 3, 1) := by decide +kernel
theorem d_LW_extend_13 : decode b_LW_extend 13 = .ok (.iconst 1, 1) := by decide +kernel
theorem d_LW_extend_14 : decode b_LW_extend 14 = .ok (.ireturn, 1) := by decide +kernel
theorem d_LW_extend_15 : decode b_LW_extend 15 = .ok (.astore_n 3, 1) := by decide +kernel
theorem d_LW_extend_16 : decode b_LW_extend 16 = .ok (.iconst 2, 1) := by decide +kernel
theorem d_LW_extend_17 : decode b_LW_extend 17 = .ok (.ireturn, 1) := by decide +kernel
theorem d_LW_extend_18 : decode b_LW_extend 18 = .ok (.astore_n 3, 1) := by decide +kernel
theorem d_LW_extend_19 : decode b_LW_extend 19 = .ok (.iconst 3, 1) := by decide +kernel
theorem d_LW_extend_20 : decode b_LW_extend 20 = .ok (.ireturn, 1) := by decide +kernel
theorem d_LW_extend_21 : decode b_LW_extend 21 = .ok (.astore_n 3, 1) := by decide +kernel
theorem d_LW_extend_22 : decode b_LW_extend 22 = .ok (.iconst 4, 1) := by decide +kernel
theorem d_LW_extend_23 : decode b_LW_extend 23 = .ok (.ireturn, 1) := by decide +kernel
theorem d_LW_extend_24 : decode b_LW_extend 24 = .ok (.iconst 0, 1) := by decide +kernel
theorem d_LW_extend_25 : decode b_LW_extend 25 = .ok (.ireturn, 1) := by decide +kernel
theorem d_LW_locate_0 : decode b_LW_locate 0 = .ok (.aload 4, 2) := by decide +kernel
theorem d_LW_locate_2 : decode b_LW_locate 2 = .ok (.iconst 0, 1) := by decide +kernel
theorem d_LW_locate_3 : decode b_LW_locate 3 = .ok (.aload_n 0, 1) := by decide +kernel
theorem d_LW_locate_4 : decode b_LW_locate 4 = .ok (.iload_n 1, 1) := by decide +kernel
theorem d_LW_locate_5 : decode b_LW_locate 5 = .ok (.iload_n 2, 1) := by decide +kernel
theorem d_LW_locate_6 : decode b_LW_locate 6 = .ok (.iload_n 3, 1) := by decide +kernel
theorem d_LW_locate_7 : decode b_LW_locate 7 = .ok (.invokevirtual 34, 3) := by decide +kernel
theorem d_LW_locate_10 : decode b_LW_locate 10 = .ok (.i2l, 1) := by decide +kernel
theorem d_LW_locate_11 : decode b_LW_locate 11 = .ok (.lastore, 1) := by decide +kernel
theorem d_LW_locate_12 : decode b_LW_locate 12 = .ok (.goto 15, 3) := by decide +kernel
theorem d_LW_locate_15 : decode b_LW_locate 15 = .ok (.astore 5, 2) := by decide +kernel
theorem d_LW_locate_17 : decode b_LW_locate 17 = .ok (.iconst 1, 1) := by decide +kernel
theorem d_LW_locate_18 : decode b_LW_locate 18 = .ok (.ireturn, 1) := by decide +kernel
theorem d_LW_locate_19 : decode b_LW_locate 19 = .ok (.astore 5, 2) := by decide +kernel
theorem d_LW_locate_21 : decode b_LW_locate 21 = .ok (.iconst 2, 1) := by decide +kernel
theorem d_LW_locate_22 : decode b_LW_locate 22 = .ok (.ireturn, 1) := by decide +kernel
theorem d_LW_locate_23 : decode b_LW_locate 23 = .ok (.astore 5, 2) := by decide +kernel
theorem d_LW_locate_25 : decode b_LW_locate 25 = .ok (.iconst 3, 1) := by decide +kernel
theorem d_LW_locate_26 : decode b_LW_locate 26 = .ok (.ireturn, 1) := by decide +kernel
theorem d_LW_locate_27 : decode b_LW_locate 27 = .ok (.iconst 0, 1) := by decide +kernel
theorem d_LW_locate_28 : decode b_LW_locate 28 = .ok (.ireturn, 1) := by decide +kernel
theorem d_LW_write_0 : decode b_LW_write 0 = .ok (.aload 5, 2) := by decide +kernel
theorem d_LW_write_2 : decode b_LW_write 2 = .ok (.iconst 0, 1) := by decide +kernel
theorem d_LW_write_3 : decode b_LW_write 3 = .ok (.aload_n 0, 1) := by decide +kernel
theorem d_LW_write_4 : decode b_LW_write 4 = .ok (.iload_n 1, 1) := by decide +kernel
theorem d_LW_write_5 : decode b_LW_write 5 = .ok (.iload_n 2, 1) := by decide +kernel
theorem d_LW_write_6 : decode b_LW_write 6 = .ok (.iload_n 3, 1) := by decide +kernel
theorem d_LW_write_7 : decode b_LW_write 7 = .ok (.iload 4, 2) := by decide +kernel
theorem d_LW_write_9 : decode b_LW_write 9 = .ok (.invokevirtual 38, 3) := by decide +kernel
theorem d_LW_write_12 : decode b_LW_write 12 = .ok (.i2l, 1) := by decide +kernel
theorem d_LW_write_13 : decode b_LW_write 13 = .ok (.lastore, 1) := by decide +kernel
theorem d_LW_write_14 : decode b_LW_write 14 = .ok (.goto 23, 3) := by decide +kernel
theorem d_LW_write_17 : decode b_LW_write 17 = .ok (.astore 6, 2) := by decide +kernel
theorem d_LW_write_19 : decode b_LW_write 19 = .ok (.iconst 1, 1) := by decide +kernel
theorem d_LW_write_20 : decode b_LW_write 20 = .ok (.ireturn, 1) := by decide +kernel
theorem d_LW_write_21 : decode b_LW_write 21 = .ok (.astore 6, 2) := by decide +kernel
theorem d_LW_write_23 : decode b_LW_write 23 = .ok (.iconst 2, 1) := by decide +kernel
theorem d_LW_write_24 : decode b_LW_write 24 = .ok (.ireturn, 1) := by decide +kernel
theorem d_LW_write_25 : decode b_LW_write 25 = .ok (.astore 6, 2) := by decide +kernel
theorem d_LW_write_27 : decode b_LW_write 27 = .ok (.iconst 3, 1) := by decide +kernel
theorem d_LW_write_28 : decode b_LW_write 28 = .ok (.ireturn, 1) := by decide +kernel
theorem d_LW_write_29 : decode b_LW_write 29 = .ok (.astore 6, 2) := by decide +kernel
theorem d_LW_write_31 : decode b_LW_write 31 = .ok (.iconst 4, 1) := by decide +kernel
theorem d_LW_write_32 : decode b_LW_write 32 = .ok (.ireturn, 1) := by decide +kernel
theorem d_LW_write_33 : decode b_LW_write 33 = .ok (.astore 6, 2) := by decide +kernel
theorem d_LW_write_35 : decode b_LW_write 35 = .ok (.iconst 5, 1) := by decide +kernel
theorem d_LW_write_36 : decode b_LW_write 36 = .ok (.ireturn, 1) := by decide +kernel
theorem d_LW_write_37 : decode b_LW_write 37 = .ok (.iconst 0, 1) := by decide +kernel
theorem d_LW_write_38 : decode b_LW_write 38 = .ok (.ireturn, 1) := by decide +kernel
theorem d_LW_append_0 : decode b_LW_append 0 = .ok (.aload_n 3, 1) := by decide +kernel
theorem d_LW_append_1 : decode b_LW_append 1 = .ok (.iconst 0, 1) := by decide +kernel
theorem d_LW_append_2 : decode b_LW_append 2 = .ok (.aload_n 0, 1) := by decide +kernel
theorem d_LW_append_3 : decode b_LW_append 3 = .ok (.iload_n 1, 1) := by decide +kernel
theorem d_LW_append_4 : decode b_LW_append 4 = .ok (.iload_n 2, 1) := by decide +kernel
theorem d_LW_append_5 : decode b_LW_append 5 = .ok (.invokevirtual 44, 3) := by decide +kernel
theorem d_LW_append_8 : decode b_LW_append 8 = .ok (.i2l, 1) := by decide +kernel
theorem d_LW_append_9 : decode b_LW_append 9 = .ok (.lastore, 1) := by decide +kernel
theorem d_LW_append_10 : decode b_LW_append 10 = .ok (.goto 23, 3) := by decide +kernel
theorem d_LW_append_13 : decode b_LW_append 13 = .ok (.astore 4, 2) := by decide +kernel
theorem d_LW_append_15 : decode b_LW_append 15 = .ok (.iconst 1, 1) := by decide +kernel
theorem d_LW_append_16 : decode b_LW_append 16 = .ok (.ireturn, 1) := by decide +kernel
theorem d_LW_append_17 : decode b_LW_append 17 = .ok (.astore 4, 2) := by decide +kernel
theorem d_LW_append_19 : decode b_LW_append 19 = .ok (.iconst 2, 1) := by decide +kernel
theorem d_LW_append_20 : decode b_LW_append 20 = .ok (.ireturn, 1) := by decide +kernel
theorem d_LW_append_21 : decode b_LW_append 21 = .ok (.astore 4, 2) := by decide +kernel
theorem d_LW_append_23 : decode b_LW_append 23 = .ok (.iconst 3, 1) := by decide +kernel
theorem d_LW_append_24 : decode b_LW_append 24 = .ok (.ireturn, 1) := by decide +kernel
theorem d_LW_append_25 : decode b_LW_append 25 = .ok (.astore 4, 2) := by decide +kernel
theorem d_LW_append_27 : decode b_LW_append 27 = .ok (.iconst 4, 1) := by decide +kernel
theorem d_LW_append_28 : decode b_LW_append 28 = .ok (.ireturn, 1) := by decide +kernel
theorem d_LW_append_29 : decode b_LW_append 29 = .ok (.astore 4, 2) := by decide +kernel
theorem d_LW_append_31 : decode b_LW_append 31 = .ok (.iconst 5, 1) := by decide +kernel
theorem d_LW_append_32 : decode b_LW_append 32 = .ok (.ireturn, 1) := by decide +kernel
theorem d_LW_append_33 : decode b_LW_append 33 = .ok (.iconst 0, 1) := by decide +kernel
theorem d_LW_append_34 : decode b_LW_append 34 = .ok (.ireturn, 1) := by decide +kernel
theorem d_LW_read_0 : decode b_LW_read 0 = .ok (.aload 6, 2) := by decide +kernel
theorem d_LW_read_2 : decode b_LW_read 2 = .ok (.iconst 0, 1) := by decide +kernel
theorem d_LW_read_3 : decode b_LW_read 3 = .ok (.aload_n 0, 1) := by decide +kernel
theorem d_LW_read_4 : decode b_LW_read 4 = .ok (.iload_n 1, 1) := by decide +kernel
theorem d_LW_read_5 : decode b_LW_read 5 = .ok (.iload_n 2, 1) := by decide +kernel
theorem d_LW_read_6 : decode b_LW_read 6 = .ok (.iload_n 3, 1) := by decide +kernel
theorem d_LW_read_7 : decode b_LW_read 7 = .ok (.iload 4, 2) := by decide +kernel
theorem d_LW_read_9 : decode b_LW_read 9 = .ok (.iload 5, 2) := by decide +kernel
theorem d_LW_read_11 : decode b_LW_read 11 = .ok (.invokevirtual 47, 3) := by decide +kernel
theorem d_LW_read_14 : decode b_LW_read 14 = .ok (.i2l, 1) := by decide +kernel
theorem d_LW_read_15 : decode b_LW_read 15 = .ok (.lastore, 1) := by decide +kernel
theorem d_LW_read_16 : decode b_LW_read 16 = .ok (.goto 23, 3) := by decide +kernel
theorem d_LW_read_19 : decode b_LW_read 19 = .ok (.astore 7, 2) := by decide +kernel
theorem d_LW_read_21 : decode b_LW_read 21 = .ok (.iconst 1, 1) := by decide +kernel
theorem d_LW_read_22 : decode b_LW_read 22 = .ok (.ireturn, 1) := by decide +kernel
theorem d_LW_read_23 : decode b_LW_read 23 = .ok (.astore 7, 2) := by decide +kernel
theorem d_LW_read_25 : decode b_LW_read 25 = .ok (.iconst 2, 1) := by decide +kernel
theorem d_LW_read_26 : decode b_LW_read 26 = .ok (.ireturn, 1) := by decide +kernel
theorem d_LW_read_27 : decode b_LW_read 27 = .ok (.astore 7, 2) := by decide +kernel
theorem d_LW_read_29 : decode b_LW_read 29 = .ok (.iconst 3, 1) := by decide +kernel
theorem d_LW_read_30 : decode b_LW_read 30 = .ok (.ireturn, 1) := by decide +kernel
theorem d_LW_read_31 : decode b_LW_read 31 = .ok (.astore 7, 2) := by decide +kernel
theorem d_LW_read_33 : decode b_LW_read 33 = .ok (.iconst 4, 1) := by decide +kernel
theorem d_LW_read_34 : decode b_LW_read 34 = .ok (.ireturn, 1) := by decide +kernel
theorem d_LW_read_35 : decode b_LW_read 35 = .ok (.astore 7, 2) := by decide +kernel
theorem d_LW_read_37 : decode b_LW_read 37 = .ok (.iconst 5, 1) := by decide +kernel
theorem d_LW_read_38 : decode b_LW_read 38 = .ok (.ireturn, 1) := by decide +kernel
theorem d_LW_read_39 : decode b_LW_read 39 = .ok (.iconst 0, 1) := by decide +kernel
theorem d_LW_read_40 : decode b_LW_read 40 = .ok (.ireturn, 1) := by decide +kernel
theorem d_LW_up_0 : decode b_LW_up 0 = .ok (.aload_n 3, 1) := by decide +kernel
theorem d_LW_up_1 : decode b_LW_up 1 = .ok (.iconst 0, 1) := by decide +kernel
theorem d_LW_up_2 : decode b_LW_up 2 = .ok (.aload_n 0, 1) := by decide +kernel
theorem d_LW_up_3 : decode b_LW_up 3 = .ok (.iload_n 1, 1) := by decide +kernel
theorem d_LW_up_4 : decode b_LW_up 4 = .ok (.iload_n 2, 1) := by decide +kernel
theorem d_LW_up_5 : decode b_LW_up 5 = .ok (.invokevirtual 51, 3) := by decide +kernel
theorem d_LW_up_8 : decode b_LW_up 8 = .ok (.i2l, 1) := by decide +kernel
theorem d_LW_up_9 : decode b_LW_up 9 = .ok (.lastore, 1) := by decide +kernel
theorem d_LW_up_10 : decode b_LW_up 10 = .ok (.goto 7, 3) := by decide +kernel
theorem d_LW_up_13 : decode b_LW_up 13 = .ok (.astore 4, 2) := by decide +kernel
theorem d_LW_up_15 : decode b_LW_up 15 = .ok (.iconst 1, 1) := by decide +kernel
theorem d_LW_up_16 : decode b_LW_up 16 = .ok (.ireturn, 1) := by decide +kernel
theorem d_LW_up_17 : decode b_LW_up 17 = .ok (.iconst 0, 1) := by decide +kernel
theorem d_LW_up_18 : decode b_LW_up 18 = .ok (.ireturn, 1) := by decide +kernel
theorem d_LW_report_0 : decode b_LW_report 0 = .ok (.aload_n 2, 1) := by decide +kernel
theorem d_LW_report_1 : decode b_LW_report 1 = .ok (.iconst 0, 1) := by decide +kernel
theorem d_LW_report_2 : decode b_LW_report 2 = .ok (.aload_n 0, 1) := by decide +kernel
theorem d_LW_report_3 : decode b_LW_report 3 = .ok (.iload_n 1, 1) := by decide +kernel
theorem d_LW_report_4 : decode b_LW_report 4 = .ok (.invokevirtual 55, 3) := by decide +kernel
theorem d_LW_report_7 : decode b_LW_report 7 = .ok (.i2l, 1) := by decide +kernel
theorem d_LW_report_8 : decode b_LW_report 8 = .ok (.lastore, 1) := by decide +kernel
theorem d_LW_report_9 : decode b_LW_report 9 = .ok (.goto 9, 3) := by decide +kernel
theorem d_LW_report_12 : decode b_LW_report 12 = .ok (.astore_n 3, 1) := by decide +kernel
theorem d_LW_report_13 : decode b_LW_report 13 = .ok (.iconst 1, 1) := by decide +kernel
theorem d_LW_report_14 : decode b_LW_report 14 = .ok (.ireturn, 1) := by decide +kernel
theorem d_LW_report_15 : decode b_LW_report 15 = .ok (.astore_n 3, 1) := by decide +kernel
theorem d_LW_report_16 : decode b_LW_report 16 = .ok (.iconst 2, 1) := by decide +kernel
theorem d_LW_report_17 : decode b_LW_report 17 = .ok (.ireturn, 1) := by decide +kernel
theorem d_LW_report_18 : decode b_LW_report 18 = .ok (.iconst 0, 1) := by decide +kernel
theorem d_LW_report_19 : decode b_LW_report 19 = .ok (.ireturn, 1) := by decide +kernel
theorem d_LW_repair_0 : decode b_LW_repair 0 = .ok (.aload_n 1, 1) := by decide +kernel
theorem d_LW_repair_1 : decode b_LW_repair 1 = .ok (.iconst 0, 1) := by decide +kernel
theorem d_LW_repair_2 : decode b_LW_repair 2 = .ok (.aload_n 0, 1) := by decide +kernel
theorem d_LW_repair_3 : decode b_LW_repair 3 = .ok (.invokevirtual 58, 3) := by decide +kernel
theorem d_LW_repair_6 : decode b_LW_repair 6 = .ok (.i2l, 1) := by decide +kernel
theorem d_LW_repair_7 : decode b_LW_repair 7 = .ok (.lastore, 1) := by decide +kernel
theorem d_LW_repair_8 : decode b_LW_repair 8 = .ok (.goto 6, 3) := by decide +kernel
theorem d_LW_repair_11 : decode b_LW_repair 11 = .ok (.astore_n 2, 1) := by decide +kernel
theorem d_LW_repair_12 : decode b_LW_repair 12 = .ok (.iconst 1, 1) := by decide +kernel
theorem d_LW_repair_13 : decode b_LW_repair 13 = .ok (.ireturn, 1) := by decide +kernel
theorem d_LW_repair_14 : decode b_LW_repair 14 = .ok (.iconst 0, 1) := by decide +kernel
theorem d_LW_repair_15 : decode b_LW_repair 15 = .ok (.ireturn, 1) := by decide +kernel
theorem d_LW_tick_0 : decode b_LW_tick 0 = .ok (.aload_n 3, 1) := by decide +kernel
theorem d_LW_tick_1 : decode b_LW_tick 1 = .ok (.iconst 0, 1) := by decide +kernel
theorem d_LW_tick_2 : decode b_LW_tick 2 = .ok (.aload_n 0, 1) := by decide +kernel
theorem d_LW_tick_3 : decode b_LW_tick 3 = .ok (.dload_n 1, 1) := by decide +kernel
theorem d_LW_tick_4 : decode b_LW_tick 4 = .ok (.invokevirtual 62, 3) := by decide +kernel
theorem d_LW_tick_7 : decode b_LW_tick 7 = .ok (.dastore, 1) := by decide +kernel
theorem d_LW_tick_8 : decode b_LW_tick 8 = .ok (.goto 7, 3) := by decide +kernel
theorem d_LW_tick_11 : decode b_LW_tick 11 = .ok (.astore 4, 2) := by decide +kernel
theorem d_LW_tick_13 : decode b_LW_tick 13 = .ok (.iconst 1, 1) := by decide +kernel
theorem d_LW_tick_14 : decode b_LW_tick 14 = .ok (.ireturn, 1) := by decide +kernel
theorem d_LW_tick_15 : decode b_LW_tick 15 = .ok (.iconst 0, 1) := by decide +kernel
theorem d_LW_tick_16 : decode b_LW_tick 16 = .ok (.ireturn, 1) := by decide +kernel
theorem d_LW_load_0 : decode b_LW_load 0 = .ok (.aload_n 1, 1) := by decide +kernel
theorem d_LW_load_1 : decode b_LW_load 1 = .ok (.iconst 0, 1) := by decide +kernel
theorem d_LW_load_2 : decode b_LW_load 2 = .ok (.aload_n 0, 1) := by decide +kernel
theorem d_LW_load_3 : decode b_LW_load 3 = .ok (.invokevirtual 66, 3) := by decide +kernel
theorem d_LW_load_6 : decode b_LW_load 6 = .ok (.dastore, 1) := by decide +kernel
theorem d_LW_load_7 : decode b_LW_load 7 = .ok (.goto 6, 3) := by decide +kernel
theorem d_LW_load_10 : decode b_LW_load 10 = .ok (.astore_n 2, 1) := by decide +kernel
theorem d_LW_load_11 : decode b_LW_load 11 = .ok (.iconst 1, 1) := by decide +kernel
theorem d_LW_load_12 : decode b_LW_load 12 = .ok (.ireturn, 1) := by decide +kernel
theorem d_LW_load_13 : decode b_LW_load 13 = .ok (.iconst 0, 1) := by decide +kernel
theorem d_LW_load_14 : decode b_LW_load 14 = .ok (.ireturn, 1) := by decide +kernel
theorem d_LW_look_0 : decode b_LW_look 0 = .ok (.aload 4, 2) := by decide +kernel
theorem d_LW_look_2 : decode b_LW_look 2 = .ok (.iconst 0, 1) := by decide +kernel
theorem d_LW_look_3 : decode b_LW_look 3 = .ok (.aload_n 0, 1) := by decide +kernel
theorem d_LW_look_4 : decode b_LW_look 4 = .ok (.iload_n 1, 1) := by decide +kernel
theorem d_LW_look_5 : decode b_LW_look 5 = .ok (.iload_n 2, 1) := by decide +kernel
theorem d_LW_look_6 : decode b_LW_look 6 = .ok (.iload_n 3, 1) := by decide +kernel
theorem d_LW_look_7 : decode b_LW_look 7 = .ok (.invokevirtual 72, 3) := by decide +kernel
theorem d_LW_look_10 : decode b_LW_look 10 = .ok (.i2l, 1) := by decide +kernel
theorem d_LW_look_11 : decode b_LW_look 11 = .ok (.lastore, 1) := by decide +kernel
theorem d_LW_look_12 : decode b_LW_look 12 = .ok (.goto 11, 3) := by decide +kernel
theorem d_LW_look_15 : decode b_LW_look 15 = .ok (.astore 5, 2) := by decide +kernel
theorem d_LW_look_17 : decode b_LW_look 17 = .ok (.iconst 1, 1) := by decide +kernel
theorem d_LW_look_18 : decode b_LW_look 18 = .ok (.ireturn, 1) := by decide +kernel
theorem d_LW_look_19 : decode b_LW_look 19 = .ok (.astore 5, 2) := by decide +kernel
theorem d_LW_look_21 : decode b_LW_look 21 = .ok (.iconst 2, 1) := by decide +kernel
theorem d_LW_look_22 : decode b_LW_look 22 = .ok (.ireturn, 1) := by decide +kernel
theorem d_LW_look_23 : decode b_LW_look 23 = .ok (.iconst 0, 1) := by decide +kernel
theorem d_LW_look_24 : decode b_LW_look 24 = .ok (.ireturn, 1) := by decide +kernel
theorem d_LW_file_0 : decode b_LW_file 0 = .ok (.aload_n 3, 1) := by decide +kernel
theorem d_LW_file_1 : decode b_LW_file 1 = .ok (.iconst 0, 1) := by decide +kernel
theorem d_LW_file_2 : decode b_LW_file 2 = .ok (.aload_n 0, 1) := by decide +kernel
theorem d_LW_file_3 : decode b_LW_file 3 = .ok (.iload_n 1, 1) := by decide +kernel
theorem d_LW_file_4 : decode b_LW_file 4 = .ok (.iload_n 2, 1) := by decide +kernel
theorem d_LW_file_5 : decode b_LW_file 5 = .ok (.invokevirtual 75, 3) := by decide +kernel
theorem d_LW_file_8 : decode b_LW_file 8 = .ok (.i2l, 1) := by decide +kernel
theorem d_LW_file_9 : decode b_LW_file 9 = .ok (.lastore, 1) := by decide +kernel
theorem d_LW_file_10 : decode b_LW_file 10 = .ok (.goto 7, 3) := by decide +kernel
theorem d_LW_file_13 : decode b_LW_file 13 = .ok (.astore 4, 2) := by decide +kernel
theorem d_LW_file_15 : decode b_LW_file 15 = .ok (.iconst 1, 1) := by decide +kernel
theorem d_LW_file_16 : decode b_LW_file 16 = .ok (.ireturn, 1) := by decide +kernel
theorem d_LW_file_17 : decode b_LW_file 17 = .ok (.iconst 0, 1) := by decide +kernel
theorem d_LW_file_18 : decode b_LW_file 18 = .ok (.ireturn, 1) := by decide +kernel
theorem d_LW_chunk_0 : decode b_LW_chunk 0 = .ok (.aload_n 3, 1) := by decide +kernel
theorem d_LW_chunk_1 : decode b_LW_chunk 1 = .ok (.iconst 0, 1) := by decide +kernel
theorem d_LW_chunk_2 : decode b_LW_chunk 2 = .ok (.aload_n 0, 1) := by decide +kernel
theorem d_LW_chunk_3 : decode b_LW_chunk 3 = .ok (.iload_n 1, 1) := by decide +kernel
theorem d_LW_chunk_4 : decode b_LW_chunk 4 = .ok (.iload_n 2, 1) := by decide +kernel
theorem d_LW_chunk_5 : decode b_LW_chunk 5 = .ok (.invokevirtual 78, 3) := by decide +kernel
theorem d_LW_chunk_8 : decode b_LW_chunk 8 = .ok (.i2l, 1) := by decide +kernel
theorem d_LW_chunk_9 : decode b_LW_chunk 9 = .ok (.lastore, 1) := by decide +kernel
theorem d_LW_chunk_10 : decode b_LW_chunk 10 = .ok (.goto 11, 3) := by decide +kernel
theorem d_LW_chunk_13 : decode b_LW_chunk 13 = .ok (.astore 4, 2) := by decide +kernel
theorem d_LW_chunk_15 : decode b_LW_chunk 15 = .ok (.iconst 1, 1) := by decide +kernel
theorem d_LW_chunk_16 : decode b_LW_chunk 16 = .ok (.ireturn, 1) := by decide +kernel
theorem d_LW_chunk_17 : decode b_LW_chunk 17 = .ok (.astore 4, 2) := by decide +kernel
theorem d_LW_chunk_19 : decode b_LW_chunk 19 = .ok (.iconst 2, 1) := by decide +kernel
theorem d_LW_chunk_20 : decode b_LW_chunk 20 = .ok (.ireturn, 1) := by decide +kernel
theorem d_LW_chunk_21 : decode b_LW_chunk 21 = .ok (.iconst 0, 1) := by decide +kernel
theorem d_LW_chunk_22 : decode b_LW_chunk 22 = .ok (.ireturn, 1) := by decide +kernel
theorem d_LW_law_0 : decode b_LW_law 0 = .ok (.new 8, 3) := by decide +kernel
theorem d_LW_law_3 : decode b_LW_law 3 = .ok (.dup, 1) := by decide +kernel
theorem d_LW_law_4 : decode b_LW_law 4 = .ok (.invokespecial 81, 3) := by decide +kernel
theorem d_LW_law_7 : decode b_LW_law 7 = .ok (.astore_n 1, 1) := by decide +kernel
theorem d_LW_law_8 : decode b_LW_law 8 = .ok (.new 82, 3) := by decide +kernel
theorem d_LW_law_11 : decode b_LW_law 11 = .ok (.dup, 1) := by decide +kernel
theorem d_LW_law_12 : decode b_LW_law 12 = .ok (.invokespecial 84, 3) := by decide +kernel
theorem d_LW_law_15 : decode b_LW_law 15 = .ok (.astore_n 2, 1) := by decide +kernel
theorem d_LW_law_16 : decode b_LW_law 16 = .ok (.iconst 1, 1) := by decide +kernel
theorem d_LW_law_17 : decode b_LW_law 17 = .ok (.newarray .long, 2) := by decide +kernel
theorem d_LW_law_19 : decode b_LW_law 19 = .ok (.astore_n 3, 1) := by decide +kernel
theorem d_LW_law_20 : decode b_LW_law 20 = .ok (.iconst 1, 1) := by decide +kernel
theorem d_LW_law_21 : decode b_LW_law 21 = .ok (.newarray .double, 2) := by decide +kernel
theorem d_LW_law_23 : decode b_LW_law 23 = .ok (.astore 4, 2) := by decide +kernel
theorem d_LW_law_25 : decode b_LW_law 25 = .ok (.iconst 0, 1) := by decide +kernel
theorem d_LW_law_26 : decode b_LW_law 26 = .ok (.istore 5, 2) := by decide +kernel
theorem d_LW_law_28 : decode b_LW_law 28 = .ok (.iload 5, 2) := by decide +kernel
theorem d_LW_law_30 : decode b_LW_law 30 = .ok (.aload_n 0, 1) := by decide +kernel
theorem d_LW_law_31 : decode b_LW_law 31 = .ok (.arraylength, 1) := by decide +kernel
theorem d_LW_law_32 : decode b_LW_law 32 = .ok (.bipush 6, 2) := by decide +kernel
theorem d_LW_law_34 : decode b_LW_law 34 = .ok (.isub, 1) := by decide +kernel
theorem d_LW_law_35 : decode b_LW_law 35 = .ok (.if_icmp .gt 1304, 3) := by decide +kernel
theorem d_LW_law_38 : decode b_LW_law 38 = .ok (.aload_n 0, 1) := by decide +kernel
theorem d_LW_law_39 : decode b_LW_law 39 = .ok (.iload 5, 2) := by decide +kernel
theorem d_LW_law_41 : decode b_LW_law 41 = .ok (.iaload, 1) := by decide +kernel
theorem d_LW_law_42 : decode b_LW_law 42 = .ok (.bipush 31, 2) := by decide +kernel
theorem d_LW_law_44 : decode b_LW_law 44 = .ok (.iand, 1) := by decide +kernel
theorem d_LW_law_45 : decode b_LW_law 45 = .ok (.tableswitch 1288 0 17 #[87, 143, 199, 255, 323, 379, 459, 551, 619, 723, 807, 863, 907, 920, 1007, 1072, 1152, 1220], 87) := by decide +kernel
theorem d_LW_law_132 : decode b_LW_law 132 = .ok (.aload_n 1, 1) := by decide +kernel
theorem d_LW_law_133 : decode b_LW_law 133 = .ok (.aload_n 0, 1) := by decide +kernel
theorem d_LW_law_134 : decode b_LW_law 134 = .ok (.iload 5, 2) := by decide +kernel
theorem d_LW_law_136 : decode b_LW_law 136 = .ok (.iconst 1, 1) := by decide +kernel
theorem d_LW_law_137 : decode b_LW_law 137 = .ok (.iadd, 1) := by decide +kernel
theorem d_LW_law_138 : decode b_LW_law 138 = .ok (.iaload, 1) := by decide +kernel
theorem d_LW_law_139 : decode b_LW_law 139 = .ok (.aload_n 3, 1) := by decide +kernel
theorem d_LW_law_140 : decode b_LW_law 140 = .ok (.invokestatic 85, 3) := by decide +kernel
theorem d_LW_law_143 : decode b_LW_law 143 = .ok (.istore 6, 2) := by decide +kernel
theorem d_LW_law_145 : decode b_LW_law 145 = .ok (.aload_n 2, 1) := by decide +kernel
theorem d_LW_law_146 : decode b_LW_law 146 = .ok (.aload_n 0, 1) := by decide +kernel
theorem d_LW_law_147 : decode b_LW_law 147 = .ok (.iload 5, 2) := by decide +kernel
theorem d_LW_law_149 : decode b_LW_law 149 = .ok (.iconst 1, 1) := by decide +kernel
theorem d_LW_law_150 : decode b_LW_law 150 = .ok (.iadd, 1) := by decide +kernel
theorem d_LW_law_151 : decode b_LW_law 151 = .ok (.iaload, 1) := by decide +kernel
theorem d_LW_law_152 : decode b_LW_law 152 = .ok (.invokevirtual 90, 3) := by decide +kernel
theorem d_LW_law_155 : decode b_LW_law 155 = .ok (.istore 7, 2) := by decide +kernel
theorem d_LW_law_157 : decode b_LW_law 157 = .ok (.aload_n 2, 1) := by decide +kernel
theorem d_LW_law_158 : decode b_LW_law 158 = .ok (.invokevirtual 91, 3) := by decide +kernel
theorem d_LW_law_161 : decode b_LW_law 161 = .ok (.iload 6, 2) := by decide +kernel
theorem d_LW_law_163 : decode b_LW_law 163 = .ok (.if_icmp .eq 5, 3) := by decide +kernel
theorem d_LW_law_166 : decode b_LW_law 166 = .ok (.iconst 0, 1) := by decide +kernel
theorem d_LW_law_167 : decode b_LW_law 167 = .ok (.ireturn, 1) := by decide +kernel
theorem d_LW_law_168 : decode b_LW_law 168 = .ok (.iload 6, 2) := by decide +kernel
theorem d_LW_law_170 : decode b_LW_law 170 = .ok (.ifCond .ne 15, 3) := by decide +kernel
theorem d_LW_law_173 : decode b_LW_law 173 = .ok (.aload_n 3, 1) := by decide +kernel
theorem d_LW_law_174 : decode b_LW_law 174 = .ok (.iconst 0, 1) := by decide +kernel
theorem d_LW_law_175 : decode b_LW_law 175 = .ok (.laload, 1) := by decide +kernel
theorem d_LW_law_176 : decode b_LW_law 176 = .ok (.iload 7, 2) := by decide +kernel
theorem d_LW_law_178 : decode b_LW_law 178 = .ok (.i2l, 1) := by decide +kernel
theorem d_LW_law_179 : decode b_LW_law 179 = .ok (.lcmp, 1) := by decide +kernel
theorem d_LW_law_180 : decode b_LW_law 180 = .ok (.ifCond .eq 5, 3) := by decide +kernel
theorem d_LW_law_183 : decode b_LW_law 183 = .ok (.iconst 0, 1) := by decide +kernel
theorem d_LW_law_184 : decode b_LW_law 184 = .ok (.ireturn, 1) := by decide +kernel
theorem d_LW_law_185 : decode b_LW_law 185 = .ok (.goto 1148, 3) := by decide +kernel
theorem d_LW_law_188 : decode b_LW_law 188 = .ok (.aload_n 1, 1) := by decide +kernel
theorem d_LW_law_189 : decode b_LW_law 189 = .ok (.aload_n 0, 1) := by decide +kernel
theorem d_LW_law_190 : decode b_LW_law 190 = .ok (.iload 5, 2) := by decide +kernel
theorem d_LW_law_192 : decode b_LW_law 192 = .ok (.iconst 1, 1) := by decide +kernel
theorem d_LW_law_193 : decode b_LW_law 193 = .ok (.iadd, 1) := by decide +kernel
theorem d_LW_law_194 : decode b_LW_law 194 = .ok (.iaload, 1) := by decide +kernel
theorem d_LW_law_195 : decode b_LW_law 195 = .ok (.aload_n 3, 1) := by decide +kernel
theorem d_LW_law_196 : decode b_LW_law 196 = .ok (.invokestatic 94, 3) := by decide +kernel
theorem d_LW_law_199 : decode b_LW_law 199 = .ok (.istore 6, 2) := by decide +kernel
theorem d_LW_law_201 : decode b_LW_law 201 = .ok (.aload_n 2, 1) := by decide +kernel
theorem d_LW_law_202 : decode b_LW_law 202 = .ok (.aload_n 0, 1) := by decide +kernel
theorem d_LW_law_203 : decode b_LW_law 203 = .ok (.iload 5, 2) := by decide +kernel
theorem d_LW_law_205 : decode b_LW_law 205 = .ok (.iconst 1, 1) := by decide +kernel
theorem d_LW_law_206 : decode b_LW_law 206 = .ok (.iadd, 1) := by decide +kernel
theorem d_LW_law_207 : decode b_LW_law 207 = .ok (.iaload, 1) := by decide +kernel
theorem d_LW_law_208 : decode b_LW_law 208 = .ok (.invokevirtual 96, 3) := by decide +kernel
theorem d_LW_law_211 : decode b_LW_law 211 = .ok (.istore 7, 2) := by decide +kernel
theorem d_LW_law_213 : decode b_LW_law 213 = .ok (.aload_n 2, 1) := by decide +kernel
theorem d_LW_law_214 : decode b_LW_law 214 = .ok (.invokevirtual 91, 3) := by decide +kernel
theorem d_LW_law_217 : decode b_LW_law 217 = .ok (.iload 6, 2) := by decide +kernel
theorem d_LW_law_219 : decode b_LW_law 219 = .ok (.if_icmp .eq 5, 3) := by decide +kernel
theorem d_LW_law_222 : decode b_LW_law 222 = .ok (.iconst 0, 1) := by decide +kernel
theorem d_LW_law_223 : decode b_LW_law 223 = .ok (.ireturn, 1) := by decide +kernel
theorem d_LW_law_224 : decode b_LW_law 224 = .ok (.iload 6, 2) := by decide +kernel
theorem d_LW_law_226 : decode b_LW_law 226 = .ok (.ifCond .ne 15, 3) := by decide +kernel
theorem d_LW_law_229 : decode b_LW_law 229 = .ok (.aload_n 3, 1) := by decide +kernel
theorem d_LW_law_230 : decode b_LW_law 230 = .ok (.iconst 0, 1) := by decide +kernel
theorem d_LW_law_231 : decode b_LW_law 231 = .ok (.laload, 1) := by decide +kernel
theorem d_LW_law_232 : decode b_LW_law 232 = .ok (.iload 7, 2) := by decide +kernel
theorem d_LW_law_234 : decode b_LW_law 234 = .ok (.i2l, 1) := by decide +kernel
theorem d_LW_law_235 : decode b_LW_law 235 = .ok (.lcmp, 1) := by decide +kernel
theorem d_LW_law_236 : decode b_LW_law 236 = .ok (.ifCond .eq 5, 3) := by decide +kernel
theorem d_LW_law_239 : decode b_LW_law 239 = .ok (.iconst 0, 1) := by decide +kernel
theorem d_LW_law_240 : decode b_LW_law 240 = .ok (.ireturn, 1) := by decide +kernel
theorem d_LW_law_241 : decode b_LW_law 241 = .ok (.goto 1092, 3) := by decide +kernel
theorem d_LW_law_244 : decode b_LW_law 244 = .ok (.aload_n 1, 1) := by decide +kernel
theorem d_LW_law_245 : decode b_LW_law 245 = .ok (.aload_n 0, 1) := by decide +kernel
theorem d_LW_law_246 : decode b_LW_law 246 = .ok (.iload 5, 2) := by decide +kernel
theorem d_LW_law_248 : decode b_LW_law 248 = .ok (.iconst 1, 1) := by decide +kernel
theorem d_LW_law_249 : decode b_LW_law 249 = .ok (.iadd, 1) := by decide +kernel
theorem d_LW_law_250 : decode b_LW_law 250 = .ok (.iaload, 1) := by decide +kernel
theorem d_LW_law_251 : decode b_LW_law 251 = .ok (.aload_n 3, 1) := by decide +kernel
theorem d_LW_law_252 : decode b_LW_law 252 = .ok (.invokestatic 97, 3) := by decide +kernel
theorem d_LW_law_255 : decode b_LW_law 255 = .ok (.istore 6, 2) := by decide +kernel
theorem d_LW_law_257 : decode b_LW_law 257 = .ok (.aload_n 2, 1) := by decide +kernel
theorem d_LW_law_258 : decode b_LW_law 258 = .ok (.aload_n 0, 1) := by decide +kernel
theorem d_LW_law_259 : decode b_LW_law 259 = .ok (.iload 5, 2) := by decide +kernel
theorem d_LW_law_261 : decode b_LW_law 261 = .ok (.iconst 1, 1) := by decide +kernel
theorem d_LW_law_262 : decode b_LW_law 262 = .ok (.iadd, 1) := by decide +kernel
theorem d_LW_law_263 : decode b_LW_law 263 = .ok (.iaload, 1) := by decide +kernel
theorem d_LW_law_264 : decode b_LW_law 264 = .ok (.invokevirtual 99, 3) := by decide +kernel
theorem d_LW_law_267 : decode b_LW_law 267 = .ok (.istore 7, 2) := by decide +kernel
theorem d_LW_law_269 : decode b_LW_law 269 = .ok (.aload_n 2, 1) := by decide +kernel
theorem d_LW_law_270 : decode b_LW_law 270 = .ok (.invokevirtual 91, 3) := by decide +kernel
theorem d_LW_law_273 : decode b_LW_law 273 = .ok (.iload 6, 2) := by decide +kernel
theorem d_LW_law_275 : decode b_LW_law 275 = .ok (.if_icmp .eq 5, 3) := by decide +kernel
theorem d_LW_law_278 : decode b_LW_law 278 = .ok (.iconst 0, 1) := by decide +kernel
theorem d_LW_law_279 : decode b_LW_law 279 = .ok (.ireturn, 1) := by decide +kernel
theorem d_LW_law_280 : decode b_LW_law 280 = .ok (.iload 6, 2) := by decide +kernel
theorem d_LW_law_282 : decode b_LW_law 282 = .ok (.ifCond .ne 15, 3) := by decide +kernel
theorem d_LW_law_285 : decode b_LW_law 285 = .ok (.aload_n 3, 1) := by decide +kernel
theorem d_LW_law_286 : decode b_LW_law 286 = .ok (.iconst 0, 1) := by decide +kernel
theorem d_LW_law_287 : decode b_LW_law 287 = .ok (.laload, 1) := by decide +kernel
theorem d_LW_law_288 : decode b_LW_law 288 = .ok (.iload 7, 2) := by decide +kernel
theorem d_LW_law_290 : decode b_LW_law 290 = .ok (.i2l, 1) := by decide +kernel
theorem d_LW_law_291 : decode b_LW_law 291 = .ok (.lcmp, 1) := by decide +kernel
theorem d_LW_law_292 : decode b_LW_law 292 = .ok (.ifCond .eq 5, 3) := by decide +kernel
theorem d_LW_law_295 : decode b_LW_law 295 = .ok (.iconst 0, 1) := by decide +kernel
theorem d_LW_law_296 : decode b_LW_law 296 = .ok (.ireturn, 1) := by decide +kernel
theorem d_LW_law_297 : decode b_LW_law 297 = .ok (.goto 1036, 3) := by decide +kernel
theorem d_LW_law_300 : decode b_LW_law 300 = .ok (.aload_n 1, 1) := by decide +kernel
theorem d_LW_law_301 : decode b_LW_law 301 = .ok (.aload_n 0, 1) := by decide +kernel
theorem d_LW_law_302 : decode b_LW_law 302 = .ok (.iload 5, 2) := by decide +kernel
theorem d_LW_law_304 : decode b_LW_law 304 = .ok (.iconst 1, 1) := by decide +kernel
theorem d_LW_law_305 : decode b_LW_law 305 = .ok (.iadd, 1) := by decide +kernel
theorem d_LW_law_306 : decode b_LW_law 306 = .ok (.iaload, 1) := by decide +kernel
theorem d_LW_law_307 : decode b_LW_law 307 = .ok (.aload_n 0, 1) := by decide +kernel
theorem d_LW_law_308 : decode b_LW_law 308 = .ok (.iload 5, 2) := by decide +kernel
theorem d_LW_law_310 : decode b_LW_law 310 = .ok (.iconst 2, 1) := by decide +kernel
theorem d_LW_law_311 : decode b_LW_law 311 = .ok (.iadd, 1) := by decide +kernel
theorem d_LW_law_312 : decode b_LW_law 312 = .ok (.iaload, 1) := by decide +kernel
theorem d_LW_law_313 : decode b_LW_law 313 = .ok (.aload_n 3, 1) := by decide +kernel
theorem d_LW_law_314 : decode b_LW_law 314 = .ok (.invokestatic 100, 3) := by decide +kernel
theorem d_LW_law_317 : decode b_LW_law 317 = .ok (.istore 6, 2) := by decide +kernel
theorem d_LW_law_319 : decode b_LW_law 319 = .ok (.aload_n 2, 1) := by decide +kernel
theorem d_LW_law_320 : decode b_LW_law 320 = .ok (.aload_n 0, 1) := by decide +kernel
theorem d_LW_law_321 : decode b_LW_law 321 = .ok (.iload 5, 2) := by decide +kernel
theorem d_LW_law_323 : decode b_LW_law 323 = .ok (.iconst 1, 1) := by decide +kernel
theorem d_LW_law_324 : decode b_LW_law 324 = .ok (.iadd, 1) := by decide +kernel
theorem d_LW_law_325 : decode b_LW_law 325 = .ok (.iaload, 1) := by decide +kernel
theorem d_LW_law_326 : decode b_LW_law 326 = .ok (.aload_n 0, 1) := by decide +kernel
theorem d_LW_law_327 : decode b_LW_law 327 = .ok (.iload 5, 2) := by decide +kernel
theorem d_LW_law_329 : decode b_LW_law 329 = .ok (.iconst 2, 1) := by decide +kernel
theorem d_LW_law_330 : decode b_LW_law 330 = .ok (.iadd, 1) := by decide +kernel
theorem d_LW_law_331 : decode b_LW_law 331 = .ok (.iaload, 1) := by decide +kernel
theorem d_LW_law_332 : decode b_LW_law 332 = .ok (.invokevirtual 103, 3) := by decide +kernel
theorem d_LW_law_335 : decode b_LW_law 335 = .ok (.istore 7, 2) := by decide +kernel
theorem d_LW_law_337 : decode b_LW_law 337 = .ok (.aload_n 2, 1) := by decide +kernel
theorem d_LW_law_338 : decode b_LW_law 338 = .ok (.invokevirtual 91, 3) := by decide +kernel
theorem d_LW_law_341 : decode b_LW_law 341 = .ok (.iload 6, 2) := by decide +kernel
theorem d_LW_law_343 : decode b_LW_law 343 = .ok (.if_icmp .eq 5, 3) := by decide +kernel
theorem d_LW_law_346 : decode b_LW_law 346 = .ok (.iconst 0, 1) := by decide +kernel
theorem d_LW_law_347 : decode b_LW_law 347 = .ok (.ireturn, 1) := by decide +kernel
theorem d_LW_law_348 : decode b_LW_law 348 = .ok (.iload 6, 2) := by decide +kernel
theorem d_LW_law_350 : decode b_LW_law 350 = .ok (.ifCond .ne 15, 3) := by decide +kernel
theorem d_LW_law_353 : decode b_LW_law 353 = .ok (.aload_n 3, 1) := by decide +kernel
theorem d_LW_law_354 : decode b_LW_law 354 = .ok (.iconst 0, 1) := by decide +kernel
theorem d_LW_law_355 : decode b_LW_law 355 = .ok (.laload, 1) := by decide +kernel
theorem d_LW_law_356 : decode b_LW_law 356 = .ok (.iload 7, 2) := by decide +kernel
theorem d_LW_law_358 : decode b_LW_law 358 = .ok (.i2l, 1) := by decide +kernel
theorem d_LW_law_359 : decode b_LW_law 359 = .ok (.lcmp, 1) := by decide +kernel
theorem d_LW_law_360 : decode b_LW_law 360 = .ok (.ifCond .eq 5, 3) := by decide +kernel
theorem d_LW_law_363 : decode b_LW_law 363 = .ok (.iconst 0, 1) := by decide +kernel
theorem d_LW_law_364 : decode b_LW_law 364 = .ok (.ireturn, 1) := by decide +kernel
theorem d_LW_law_365 : decode b_LW_law 365 = .ok (.goto 968, 3) := by decide +kernel
theorem d_LW_law_368 : decode b_LW_law 368 = .ok (.aload_n 1, 1) := by decide +kernel
theorem d_LW_law_369 : decode b_LW_law 369 = .ok (.aload_n 0, 1) := by decide +kernel
theorem d_LW_law_370 : decode b_LW_law 370 = .ok (.iload 5, 2) := by decide +kernel
theorem d_LW_law_372 : decode b_LW_law 372 = .ok (.iconst 1, 1) := by decide +kernel
theorem d_LW_law_373 : decode b_LW_law 373 = .ok (.iadd, 1) := by decide +kernel
theorem d_LW_law_374 : decode b_LW_law 374 = .ok (.iaload, 1) := by decide +kernel
theorem d_LW_law_375 : decode b_LW_law 375 = .ok (.aload_n 3, 1) := by decide +kernel
theorem d_LW_law_376 : decode b_LW_law 376 = .ok (.invokestatic 104, 3) := by decide +kernel
theorem d_LW_law_379 : decode b_LW_law 379 = .ok (.istore 6, 2) := by decide +kernel
theorem d_LW_law_381 : decode b_LW_law 381 = .ok (.aload_n 2, 1) := by decide +kernel
theorem d_LW_law_382 : decode b_LW_law 382 = .ok (.aload_n 0, 1) := by decide +kernel
theorem d_LW_law_383 : decode b_LW_law 383 = .ok (.iload 5, 2) := by decide +kernel
theorem d_LW_law_385 : decode b_LW_law 385 = .ok (.iconst 1, 1) := by decide +kernel
theorem d_LW_law_386 : decode b_LW_law 386 = .ok (.iadd, 1) := by decide +kernel
theorem d_LW_law_387 : decode b_LW_law 387 = .ok (.iaload, 1) := by decide +kernel
theorem d_LW_law_388 : decode b_LW_law 388 = .ok (.invokevirtual 106, 3) := by decide +kernel
theorem d_LW_law_391 : decode b_LW_law 391 = .ok (.istore 7, 2) := by decide +kernel
theorem d_LW_law_393 : decode b_LW_law 393 = .ok (.aload_n 2, 1) := by decide +kernel
theorem d_LW_law_394 : decode b_LW_law 394 = .ok (.invokevirtual 91, 3) := by decide +kernel
theorem d_LW_law_397 : decode b_LW_law 397 = .ok (.iload 6, 2) := by decide +kernel
theorem d_LW_law_399 : decode b_LW_law 399 = .ok (.if_icmp .eq 5, 3) := by decide +kernel
theorem d_LW_law_402 : decode b_LW_law 402 = .ok (.iconst 0, 1) := by decide +kernel
theorem d_LW_law_403 : decode b_LW_law 403 = .ok (.ireturn, 1) := by decide +kernel
theorem d_LW_law_404 : decode b_LW_law 404 = .ok (.iload 6, 2) := by decide +kernel
theorem d_LW_law_406 : decode b_LW_law 406 = .ok (.ifCond .ne 15, 3) := by decide +kernel
theorem d_LW_law_409 : decode b_LW_law 409 = .ok (.aload_n 3, 1) := by decide +kernel
theorem d_LW_law_410 : decode b_LW_law 410 = .ok (.iconst 0, 1) := by decide +kernel
theorem d_LW_law_411 : decode b_LW_law 411 = .ok (.laload, 1) := by decide +kernel
theorem d_LW_law_412 : decode b_LW_law 412 = .ok (.iload 7, 2) := by decide +kernel
theorem d_LW_law_414 : decode b_LW_law 414 = .ok (.i2l, 1) := by decide +kernel
theorem d_LW_law_415 : decode b_LW_law 415 = .ok (.lcmp, 1) := by decide +kernel
theorem d_LW_law_416 : decode b_LW_law 416 = .ok (.ifCond .eq 5, 3) := by decide +kernel
theorem d_LW_law_419 : decode b_LW_law 419 = .ok (.iconst 0, 1) := by decide +kernel
theorem d_LW_law_420 : decode b_LW_law 420 = .ok (.ireturn, 1) := by decide +kernel
theorem d_LW_law_421 : decode b_LW_law 421 = .ok (.goto 912, 3) := by decide +kernel
theorem d_LW_law_424 : decode b_LW_law 424 = .ok (.aload_n 1, 1) := by decide +kernel
theorem d_LW_law_425 : decode b_LW_law 425 = .ok (.aload_n 0, 1) := by decide +kernel
theorem d_LW_law_426 : decode b_LW_law 426 = .ok (.iload 5, 2) := by decide +kernel
theorem d_LW_law_428 : decode b_LW_law 428 = .ok (.iconst 1, 1) := by decide +kernel
theorem d_LW_law_429 : decode b_LW_law 429 = .ok (.iadd, 1) := by decide +kernel
theorem d_LW_law_430 : decode b_LW_law 430 = .ok (.iaload, 1) := by decide +kernel
theorem d_LW_law_431 : decode b_LW_law 431 = .ok (.aload_n 0, 1) := by decide +kernel
theorem d_LW_law_432 : decode b_LW_law 432 = .ok (.iload 5, 2) := by decide +kernel
theorem d_LW_law_434 : decode b_LW_law 434 = .ok (.iconst 2, 1) := by decide +kernel
theorem d_LW_law_435 : decode b_LW_law 435 = .ok (.iadd, 1) := by decide +kernel
theorem d_LW_law_436 : decode b_LW_law 436 = .ok (.iaload, 1) := by decide +kernel
theorem d_LW_law_437 : decode b_LW_law 437 = .ok (.aload_n 0, 1) := by decide +kernel
theorem d_LW_law_438 : decode b_LW_law 438 = .ok (.iload 5, 2) := by decide +kernel
theorem d_LW_law_440 : decode b_LW_law 440 = .ok (.iconst 3, 1) := by decide +kernel
theorem d_LW_law_441 : decode b_LW_law 441 = .ok (.iadd, 1) := by decide +kernel
theorem d_LW_law_442 : decode b_LW_law 442 = .ok (.iaload, 1) := by decide +kernel
theorem d_LW_law_443 : decode b_LW_law 443 = .ok (.aload_n 3, 1) := by decide +kernel
theorem d_LW_law_444 : decode b_LW_law 444 = .ok (.invokestatic 107, 3) := by decide +kernel
theorem d_LW_law_447 : decode b_LW_law 447 = .ok (.istore 6, 2) := by decide +kernel
theorem d_LW_law_449 : decode b_LW_law 449 = .ok (.aload_n 2, 1) := by decide +kernel
theorem d_LW_law_450 : decode b_LW_law 450 = .ok (.aload_n 0, 1) := by decide +kernel
theorem d_LW_law_451 : decode b_LW_law 451 = .ok (.iload 5, 2) := by decide +kernel
theorem d_LW_law_453 : decode b_LW_law 453 = .ok (.iconst 1, 1) := by decide +kernel
theorem d_LW_law_454 : decode b_LW_law 454 = .ok (.iadd, 1) := by decide +kernel
theorem d_LW_law_455 : decode b_LW_law 455 = .ok (.iaload, 1) := by decide +kernel
theorem d_LW_law_456 : decode b_LW_law 456 = .ok (.aload_n 0, 1) := by decide +kernel
theorem d_LW_law_457 : decode b_LW_law 457 = .ok (.iload 5, 2) := by decide +kernel
theorem d_LW_law_459 : decode b_LW_law 459 = .ok (.iconst 2, 1) := by decide +kernel
theorem d_LW_law_460 : decode b_LW_law 460 = .ok (.iadd, 1) := by decide +kernel
theorem d_LW_law_461 : decode b_LW_law 461 = .ok (.iaload, 1) := by decide +kernel
theorem d_LW_law_462 : decode b_LW_law 462 = .ok (.aload_n 0, 1) := by decide +kernel
theorem d_LW_law_463 : decode b_LW_law 463 = .ok (.iload 5, 2) := by decide +kernel
theorem d_LW_law_465 : decode b_LW_law 465 = .ok (.iconst 3, 1) := by decide +kernel
theorem d_LW_law_466 : decode b_LW_law 466 = .ok (.iadd, 1) := by decide +kernel
theorem d_LW_law_467 : decode b_LW_law 467 = .ok (.iaload, 1) := by decide +kernel
theorem d_LW_law_468 : decode b_LW_law 468 = .ok (.invokevirtual 110, 3) := by decide +kernel
theorem d_LW_law_471 : decode b_LW_law 471 = .ok (.istore 7, 2) := by decide +kernel
theorem d_LW_law_473 : decode b_LW_law 473 = .ok (.aload_n 2, 1) := by decide +kernel
theorem d_LW_law_474 : decode b_LW_law 474 = .ok (.invokevirtual 91, 3) := by decide +kernel
theorem d_LW_law_477 : decode b_LW_law 477 = .ok (.iload 6, 2) := by decide +kernel
theorem d_LW_law_479 : decode b_LW_law 479 = .ok (.if_icmp .eq 5, 3) := by decide +kernel
theorem d_LW_law_482 : decode b_LW_law 482 = .ok (.iconst 0, 1) := by decide +kernel
theorem d_LW_law_483 : decode b_LW_law 483 = .ok (.ireturn, 1) := by decide +kernel
theorem d_LW_law_484 : decode b_LW_law 484 = .ok (.iload 6, 2) := by decide +kernel
theorem d_LW_law_486 : decode b_LW_law 486 = .ok (.ifCond .ne 15, 3) := by decide +kernel
theorem d_LW_law_489 : decode b_LW_law 489 = .ok (.aload_n 3, 1) := by decide +kernel
theorem d_LW_law_490 : decode b_LW_law 490 = .ok (.iconst 0, 1) := by decide +kernel
theorem d_LW_law_491 : decode b_LW_law 491 = .ok (.laload, 1) := by decide +kernel
theorem d_LW_law_492 : decode b_LW_law 492 = .ok (.iload 7, 2) := by decide +kernel
theorem d_LW_law_494 : decode b_LW_law 494 = .ok (.i2l, 1) := by decide +kernel
theorem d_LW_law_495 : decode b_LW_law 495 = .ok (.lcmp, 1) := by decide +kernel
theorem d_LW_law_496 : decode b_LW_law 496 = .ok (.ifCond .eq 5, 3) := by decide +kernel
theorem d_LW_law_499 : decode b_LW_law 499 = .ok (.iconst 0, 1) := by decide +kernel
theorem d_LW_law_500 : decode b_LW_law 500 = .ok (.ireturn, 1) := by decide +kernel
theorem d_LW_law_501 : decode b_LW_law 501 = .ok (.goto 832, 3) := by decide +kernel
theorem d_LW_law_504 : decode b_LW_law 504 = .ok (.aload_n 1, 1) := by decide +kernel
theorem d_LW_law_505 : decode b_LW_law 505 = .ok (.aload_n 0, 1) := by decide +kernel
theorem d_LW_law_506 : decode b_LW_law 506 = .ok (.iload 5, 2) := by decide +kernel
theorem d_LW_law_508 : decode b_LW_law 508 = .ok (.iconst 1, 1) := by decide +kernel
theorem d_LW_law_509 : decode b_LW_law 509 = .ok (.iadd, 1) := by decide +kernel
theorem d_LW_law_510 : decode b_LW_law 510 = .ok (.iaload, 1) := by decide +kernel
theorem d_LW_law_511 : decode b_LW_law 511 = .ok (.aload_n 0, 1) := by decide +kernel
theorem d_LW_law_512 : decode b_LW_law 512 = .ok (.iload 5, 2) := by decide +kernel
theorem d_LW_law_514 : decode b_LW_law 514 = .ok (.iconst 2, 1) := by decide +kernel
theorem d_LW_law_515 : decode b_LW_law 515 = .ok (.iadd, 1) := by decide +kernel
theorem d_LW_law_516 : decode b_LW_law 516 = .ok (.iaload, 1) := by decide +kernel
theorem d_LW_law_517 : decode b_LW_law 517 = .ok (.aload_n 0, 1) := by decide +kernel
theorem d_LW_law_518 : decode b_LW_law 518 = .ok (.iload 5, 2) := by decide +kernel
theorem d_LW_law_520 : decode b_LW_law 520 = .ok (.iconst 3, 1) := by decide +kernel
theorem d_LW_law_521 : decode b_LW_law 521 = .ok (.iadd, 1) := by decide +kernel
theorem d_LW_law_522 : decode b_LW_law 522 = .ok (.iaload, 1) := by decide +kernel
theorem d_LW_law_523 : decode b_LW_law 523 = .ok (.aload_n 0, 1) := by decide +kernel
theorem d_LW_law_524 : decode b_LW_law 524 = .ok (.iload 5, 2) := by decide +kernel
theorem d_LW_law_526 : decode b_LW_law 526 = .ok (.iconst 4, 1) := by decide +kernel
theorem d_LW_law_527 : decode b_LW_law 527 = .ok (.iadd, 1) := by decide +kernel
theorem d_LW_law_528 : decode b_LW_law 528 = .ok (.iaload, 1) := by decide +kernel
theorem d_LW_law_529 : decode b_LW_law 529 = .ok (.aload_n 3, 1) := by decide +kernel
theorem d_LW_law_530 : decode b_LW_law 530 = .ok (.invokestatic 111, 3) := by decide +kernel
theorem d_LW_law_533 : decode b_LW_law 533 = .ok (.istore 6, 2) := by decide +kernel
theorem d_LW_law_535 : decode b_LW_law 535 = .ok (.aload_n 2, 1) := by decide +kernel
theorem d_LW_law_536 : decode b_LW_law 536 = .ok (.aload_n 0, 1) := by decide +kernel
theorem d_LW_law_537 : decode b_LW_law 537 = .ok (.iload 5, 2) := by decide +kernel
theorem d_LW_law_539 : decode b_LW_law 539 = .ok (.iconst 1, 1) := by decide +kernel
theorem d_LW_law_540 : decode b_LW_law 540 = .ok (.iadd, 1) := by decide +kernel
theorem d_LW_law_541 : decode b_LW_law 541 = .ok (.iaload, 1) := by decide +kernel
theorem d_LW_law_542 : decode b_LW_law 542 = .ok (.aload_n 0, 1) := by decide +kernel
theorem d_LW_law_543 : decode b_LW_law 543 = .ok (.iload 5, 2) := by decide +kernel
theorem d_LW_law_545 : decode b_LW_law 545 = .ok (.iconst 2, 1) := by decide +kernel
theorem d_LW_law_546 : decode b_LW_law 546 = .ok (.iadd, 1) := by decide +kernel
theorem d_LW_law_547 : decode b_LW_law 547 = .ok (.iaload, 1) := by decide +kernel
theorem d_LW_law_548 : decode b_LW_law 548 = .ok (.aload_n 0, 1) := by decide +kernel
theorem d_LW_law_549 : decode b_LW_law 549 = .ok (.iload 5, 2) := by decide +kernel
theorem d_LW_law_551 : decode b_LW_law 551 = .ok (.iconst 3, 1) := by decide +kernel
theorem d_LW_law_552 : decode b_LW_law 552 = .ok (.iadd, 1) := by decide +kernel
theorem d_LW_law_553 : decode b_LW_law 553 = .ok (.iaload, 1) := by decide +kernel
theorem d_LW_law_554 : decode b_LW_law 554 = .ok (.aload_n 0, 1) := by decide +kernel
theorem d_LW_law_555 : decode b_LW_law 555 = .ok (.iload 5, 2) := by decide +kernel
theorem d_LW_law_557 : decode b_LW_law 557 = .ok (.iconst 4, 1) := by decide +kernel
theorem d_LW_law_558 : decode b_LW_law 558 = .ok (.iadd, 1) := by decide +kernel
theorem d_LW_law_559 : decode b_LW_law 559 = .ok (.iaload, 1) := by decide +kernel
theorem d_LW_law_560 : decode b_LW_law 560 = .ok (.invokevirtual 114, 3) := by decide +kernel
theorem d_LW_law_563 : decode b_LW_law 563 = .ok (.istore 7, 2) := by decide +kernel
theorem d_LW_law_565 : decode b_LW_law 565 = .ok (.aload_n 2, 1) := by decide +kernel
theorem d_LW_law_566 : decode b_LW_law 566 = .ok (.invokevirtual 91, 3) := by decide +kernel
theorem d_LW_law_569 : decode b_LW_law 569 = .ok (.iload 6, 2) := by decide +kernel
theorem d_LW_law_571 : decode b_LW_law 571 = .ok (.if_icmp .eq 5, 3) := by decide +kernel
theorem d_LW_law_574 : decode b_LW_law 574 = .ok (.iconst 0, 1) := by decide +kernel
theorem d_LW_law_575 : decode b_LW_law 575 = .ok (.ireturn, 1) := by decide +kernel
theorem d_LW_law_576 : decode b_LW_law 576 = .ok (.iload 6, 2) := by decide +kernel
theorem d_LW_law_578 : decode b_LW_law 578 = .ok (.ifCond .ne 15, 3) := by decide +kernel
theorem d_LW_law_581 : decode b_LW_law 581 = .ok (.aload_n 3, 1) := by decide +kernel
theorem d_LW_law_582 : decode b_LW_law 582 = .ok (.iconst 0, 1) := by decide +kernel
theorem d_LW_law_583 : decode b_LW_law 583 = .ok (.laload, 1) := by decide +kernel
theorem d_LW_law_584 : decode b_LW_law 584 = .ok (.iload 7, 2) := by decide +kernel
theorem d_LW_law_586 : decode b_LW_law 586 = .ok (.i2l, 1) := by decide +kernel
theorem d_LW_law_587 : decode b_LW_law 587 = .ok (.lcmp, 1) := by decide +kernel
theorem d_LW_law_588 : decode b_LW_law 588 = .ok (.ifCond .eq 5, 3) := by decide +kernel
theorem d_LW_law_591 : decode b_LW_law 591 = .ok (.iconst 0, 1) := by decide +kernel
theorem d_LW_law_592 : decode b_LW_law 592 = .ok (.ireturn, 1) := by decide +kernel
theorem d_LW_law_593 : decode b_LW_law 593 = .ok (.goto 740, 3) := by decide +kernel
theorem d_LW_law_596 : decode b_LW_law 596 = .ok (.aload_n 1, 1) := by decide +kernel
theorem d_LW_law_597 : decode b_LW_law 597 = .ok (.aload_n 0, 1) := by decide +kernel
theorem d_LW_law_598 : decode b_LW_law 598 = .ok (.iload 5, 2) := by decide +kernel
theorem d_LW_law_600 : decode b_LW_law 600 = .ok (.iconst 1, 1) := by decide +kernel
theorem d_LW_law_601 : decode b_LW_law 601 = .ok (.iadd, 1) := by decide +kernel
theorem d_LW_law_602 : decode b_LW_law 602 = .ok (.iaload, 1) := by decide +kernel
theorem d_LW_law_603 : decode b_LW_law 603 = .ok (.aload_n 0, 1) := by decide +kernel
theorem d_LW_law_604 : decode b_LW_law 604 = .ok (.iload 5, 2) := by decide +kernel
theorem d_LW_law_606 : decode b_LW_law 606 = .ok (.iconst 2, 1) := by decide +kernel
theorem d_LW_law_607 : decode b_LW_law 607 = .ok (.iadd, 1) := by decide +kernel
theorem d_LW_law_608 : decode b_LW_law 608 = .ok (.iaload, 1) := by decide +kernel
theorem d_LW_law_609 : decode b_LW_law 609 = .ok (.aload_n 3, 1) := by decide +kernel
theorem d_LW_law_610 : decode b_LW_law 610 = .ok (.invokestatic 115, 3) := by decide +kernel
theorem d_LW_law_613 : decode b_LW_law 613 = .ok (.istore 6, 2) := by decide +kernel
theorem d_LW_law_615 : decode b_LW_law 615 = .ok (.aload_n 2, 1) := by decide +kernel
theorem d_LW_law_616 : decode b_LW_law 616 = .ok (.aload_n 0, 1) := by decide +kernel
theorem d_LW_law_617 : decode b_LW_law 617 = .ok (.iload 5, 2) := by decide +kernel
theorem d_LW_law_619 : decode b_LW_law 619 = .ok (.iconst 1, 1) := by decide +kernel
theorem d_LW_law_620 : decode b_LW_law 620 = .ok (.iadd, 1) := by decide +kernel
theorem d_LW_law_621 : decode b_LW_law 621 = .ok (.iaload, 1) := by decide +kernel
theorem d_LW_law_622 : decode b_LW_law 622 = .ok (.aload_n 0, 1) := by decide +kernel
theorem d_LW_law_623 : decode b_LW_law 623 = .ok (.iload 5, 2) := by decide +kernel
theorem d_LW_law_625 : decode b_LW_law 625 = .ok (.iconst 2, 1) := by decide +kernel
theorem d_LW_law_626 : decode b_LW_law 626 = .ok (.iadd, 1) := by decide +kernel
theorem d_LW_law_627 : decode b_LW_law 627 = .ok (.iaload, 1) := by decide +kernel
theorem d_LW_law_628 : decode b_LW_law 628 = .ok (.invokevirtual 117, 3) := by decide +kernel
theorem d_LW_law_631 : decode b_LW_law 631 = .ok (.istore 7, 2) := by decide +kernel
theorem d_LW_law_633 : decode b_LW_law 633 = .ok (.aload_n 2, 1) := by decide +kernel
theorem d_LW_law_634 : decode b_LW_law 634 = .ok (.invokevirtual 91, 3) := by decide +kernel
theorem d_LW_law_637 : decode b_LW_law 637 = .ok (.iload 6, 2) := by decide +kernel
theorem d_LW_law_639 : decode b_LW_law 639 = .ok (.if_icmp .eq 5, 3) := by decide +kernel
theorem d_LW_law_642 : decode b_LW_law 642 = .ok (.iconst 0, 1) := by decide +kernel
theorem d_LW_law_643 : decode b_LW_law 643 = .ok (.ireturn, 1) := by decide +kernel
theorem d_LW_law_644 : decode b_LW_law 644 = .ok (.iload 6, 2) := by decide +kernel
theorem d_LW_law_646 : decode b_LW_law 646 = .ok (.ifCond .ne 15, 3) := by decide +kernel
theorem d_LW_law_649 : decode b_LW_law 649 = .ok (.aload_n 3, 1) := by decide +kernel
theorem d_LW_law_650 : decode b_LW_law 650 = .ok (.iconst 0, 1) := by decide +kernel
theorem d_LW_law_651 : decode b_LW_law 651 = .ok (.laload, 1) := by decide +kernel
theorem d_LW_law_652 : decode b_LW_law 652 = .ok (.iload 7, 2) := by decide +kernel
theorem d_LW_law_654 : decode b_LW_law 654 = .ok (.i2l, 1) := by decide +kernel
theorem d_LW_law_655 : decode b_LW_law 655 = .ok (.lcmp, 1) := by decide +kernel
theorem d_LW_law_656 : decode b_LW_law 656 = .ok (.ifCond .eq 5, 3) := by decide +kernel
theorem d_LW_law_659 : decode b_LW_law 659 = .ok (.iconst 0, 1) := by decide +kernel
theorem d_LW_law_660 : decode b_LW_law 660 = .ok (.ireturn, 1) := by decide +kernel
theorem d_LW_law_661 : decode b_LW_law 661 = .ok (.goto 672, 3) := by decide +kernel
theorem d_LW_law_664 : decode b_LW_law 664 = .ok (.aload_n 1, 1) := by decide +kernel
theorem d_LW_law_665 : decode b_LW_law 665 = .ok (.aload_n 0, 1) := by decide +kernel
theorem d_LW_law_666 : decode b_LW_law 666 = .ok (.iload 5, 2) := by decide +kernel
theorem d_LW_law_668 : decode b_LW_law 668 = .ok (.iconst 1, 1) := by decide +kernel
theorem d_LW_law_669 : decode b_LW_law 669 = .ok (.iadd, 1) := by decide +kernel
theorem d_LW_law_670 : decode b_LW_law 670 = .ok (.iaload, 1) := by decide +kernel
theorem d_LW_law_671 : decode b_LW_law 671 = .ok (.aload_n 0, 1) := by decide +kernel
theorem d_LW_law_672 : decode b_LW_law 672 = .ok (.iload 5, 2) := by decide +kernel
theorem d_LW_law_674 : decode b_LW_law 674 = .ok (.iconst 2, 1) := by decide +kernel
theorem d_LW_law_675 : decode b_LW_law 675 = .ok (.iadd, 1) := by decide +kernel
theorem d_LW_law_676 : decode b_LW_law 676 = .ok (.iaload, 1) := by decide +kernel
theorem d_LW_law_677 : decode b_LW_law 677 = .ok (.aload_n 0, 1) := by decide +kernel
theorem d_LW_law_678 : decode b_LW_law 678 = .ok (.iload 5, 2) := by decide +kernel
theorem d_LW_law_680 : decode b_LW_law 680 = .ok (.iconst 3, 1) := by decide +kernel
theorem d_LW_law_681 : decode b_LW_law 681 = .ok (.iadd, 1) := by decide +kernel
theorem d_LW_law_682 : decode b_LW_law 682 = .ok (.iaload, 1) := by decide +kernel
theorem d_LW_law_683 : decode b_LW_law 683 = .ok (.aload_n 0, 1) := by decide +kernel
theorem d_LW_law_684 : decode b_LW_law 684 = .ok (.iload 5, 2) := by decide +kernel
theorem d_LW_law_686 : decode b_LW_law 686 = .ok (.iconst 4, 1) := by decide +kernel
theorem d_LW_law_687 : decode b_LW_law 687 = .ok (.iadd, 1) := by decide +kernel
theorem d_LW_law_688 : decode b_LW_law 688 = .ok (.iaload, 1) := by decide +kernel
theorem d_LW_law_689 : decode b_LW_law 689 = .ok (.aload_n 0, 1) := by decide +kernel
theorem d_LW_law_690 : decode b_LW_law 690 = .ok (.iload 5, 2) := by decide +kernel
theorem d_LW_law_692 : decode b_LW_law 692 = .ok (.iconst 5, 1) := by decide +kernel
theorem d_LW_law_693 : decode b_LW_law 693 = .ok (.iadd, 1) := by decide +kernel
theorem d_LW_law_694 : decode b_LW_law 694 = .ok (.iaload, 1) := by decide +kernel
theorem d_LW_law_695 : decode b_LW_law 695 = .ok (.aload_n 3, 1) := by decide +kernel
theorem d_LW_law_696 : decode b_LW_law 696 = .ok (.invokestatic 118, 3) := by decide +kernel
theorem d_LW_law_699 : decode b_LW_law 699 = .ok (.istore 6, 2) := by decide +kernel
theorem d_LW_law_701 : decode b_LW_law 701 = .ok (.aload_n 2, 1) := by decide +kernel
theorem d_LW_law_702 : decode b_LW_law 702 = .ok (.aload_n 0, 1) := by decide +kernel
theorem d_LW_law_703 : decode b_LW_law 703 = .ok (.iload 5, 2) := by decide +kernel
theorem d_LW_law_705 : decode b_LW_law 705 = .ok (.iconst 1, 1) := by decide +kernel
theorem d_LW_law_706 : decode b_LW_law 706 = .ok (.iadd, 1) := by decide +kernel
theorem d_LW_law_707 : decode b_LW_law 707 = .ok (.iaload, 1) := by decide +kernel
theorem d_LW_law_708 : decode b_LW_law 708 = .ok (.aload_n 0, 1) := by decide +kernel
theorem d_LW_law_709 : decode b_LW_law 709 = .ok (.iload 5, 2) := by decide +kernel
theorem d_LW_law_711 : decode b_LW_law 711 = .ok (.iconst 2, 1) := by decide +kernel
theorem d_LW_law_712 : decode b_LW_law 712 = .ok (.iadd, 1) := by decide +kernel
theorem d_LW_law_713 : decode b_LW_law 713 = .ok (.iaload, 1) := by decide +kernel
theorem d_LW_law_714 : decode b_LW_law 714 = .ok (.aload_n 0, 1) := by decide +kernel
theorem d_LW_law_715 : decode b_LW_law 715 = .ok (.iload 5, 2) := by decide +kernel
theorem d_LW_law_717 : decode b_LW_law 717 = .ok (.iconst 3, 1) := by decide +kernel
theorem d_LW_law_718 : decode b_LW_law 718 = .ok (.iadd, 1) := by decide +kernel
theorem d_LW_law_719 : decode b_LW_law 719 = .ok (.iaload, 1) := by decide +kernel
theorem d_LW_law_720 : decode b_LW_law 720 = .ok (.aload_n 0, 1) := by decide +kernel
theorem d_LW_law_721 : decode b_LW_law 721 = .ok (.iload 5, 2) := by decide +kernel
theorem d_LW_law_723 : decode b_LW_law 723 = .ok (.iconst 4, 1) := by decide +kernel
theorem d_LW_law_724 : decode b_LW_law 724 = .ok (.iadd, 1) := by decide +kernel
theorem d_LW_law_725 : decode b_LW_law 725 = .ok (.iaload, 1) := by decide +kernel
theorem d_LW_law_726 : decode b_LW_law 726 = .ok (.aload_n 0, 1) := by decide +kernel
theorem d_LW_law_727 : decode b_LW_law 727 = .ok (.iload 5, 2) := by decide +kernel
theorem d_LW_law_729 : decode b_LW_law 729 = .ok (.iconst 5, 1) := by decide +kernel
theorem d_LW_law_730 : decode b_LW_law 730 = .ok (.iadd, 1) := by decide +kernel
theorem d_LW_law_731 : decode b_LW_law 731 = .ok (.iaload, 1) := by decide +kernel
theorem d_LW_law_732 : decode b_LW_law 732 = .ok (.invokevirtual 121, 3) := by decide +kernel
theorem d_LW_law_735 : decode b_LW_law 735 = .ok (.istore 7, 2) := by decide +kernel
theorem d_LW_law_737 : decode b_LW_law 737 = .ok (.aload_n 2, 1) := by decide +kernel
theorem d_LW_law_738 : decode b_LW_law 738 = .ok (.invokevirtual 91, 3) := by decide +kernel
theorem d_LW_law_741 : decode b_LW_law 741 = .ok (.iload 6, 2) := by decide +kernel
theorem d_LW_law_743 : decode b_LW_law 743 = .ok (.if_icmp .eq 5, 3) := by decide +kernel
theorem d_LW_law_746 : decode b_LW_law 746 = .ok (.iconst 0, 1) := by decide +kernel
theorem d_LW_law_747 : decode b_LW_law 747 = .ok (.ireturn, 1) := by decide +kernel
theorem d_LW_law_748 : decode b_LW_law 748 = .ok (.iload 6, 2) := by decide +kernel
theorem d_LW_law_750 : decode b_LW_law 750 = .ok (.ifCond .ne 15, 3) := by decide +kernel
theorem d_LW_law_753 : decode b_LW_law 753 = .ok (.aload_n 3, 1) := by decide +kernel
theorem d_LW_law_754 : decode b_LW_law 754 = .ok (.iconst 0, 1) := by decide +kernel
theorem d_LW_law_755 : decode b_LW_law 755 = .ok (.laload, 1) := by decide +kernel
theorem d_LW_law_756 : decode b_LW_law 756 = .ok (.iload 7, 2) := by decide +kernel
theorem d_LW_law_758 : decode b_LW_law 758 = .ok (.i2l, 1) := by decide +kernel
theorem d_LW_law_759 : decode b_LW_law 759 = .ok (.lcmp, 1) := by decide +kernel
theorem d_LW_law_760 : decode b_LW_law 760 = .ok (.ifCond .eq 5, 3) := by decide +kernel
theorem d_LW_law_763 : decode b_LW_law 763 = .ok (.iconst 0, 1) := by decide +kernel
theorem d_LW_law_764 : decode b_LW_law 764 = .ok (.ireturn, 1) := by decide +kernel
theorem d_LW_law_765 : decode b_LW_law 765 = .ok (.goto 568, 3) := by decide +kernel
theorem d_LW_law_768 : decode b_LW_law 768 = .ok (.aload_n 1, 1) := by decide +kernel
theorem d_LW_law_769 : decode b_LW_law 769 = .ok (.aload_n 0, 1) := by decide +kernel
theorem d_LW_law_770 : decode b_LW_law 770 = .ok (.iload 5, 2) := by decide +kernel
theorem d_LW_law_772 : decode b_LW_law 772 = .ok (.iconst 1, 1) := by decide +kernel
theorem d_LW_law_773 : decode b_LW_law 773 = .ok (.iadd, 1) := by decide +kernel
theorem d_LW_law_774 : decode b_LW_law 774 = .ok (.iaload, 1) := by decide +kernel
theorem d_LW_law_775 : decode b_LW_law 775 = .ok (.aload_n 0, 1) := by decide +kernel
theorem d_LW_law_776 : decode b_LW_law 776 = .ok (.iload 5, 2) := by decide +kernel
theorem d_LW_law_778 : decode b_LW_law 778 = .ok (.iconst 2, 1) := by decide +kernel
theorem d_LW_law_779 : decode b_LW_law 779 = .ok (.iadd, 1) := by decide +kernel
theorem d_LW_law_780 : decode b_LW_law 780 = .ok (.iaload, 1) := by decide +kernel
theorem d_LW_law_781 : decode b_LW_law 781 = .ok (.ifCond .eq 7, 3) := by decide +kernel
theorem d_LW_law_784 : decode b_LW_law 784 = .ok (.iconst 1, 1) := by decide +kernel
theorem d_LW_law_785 : decode b_LW_law 785 = .ok (.goto 4, 3) := by decide +kernel
theorem d_LW_law_788 : decode b_LW_law 788 = .ok (.iconst 0, 1) := by decide +kernel
theorem d_LW_law_789 : decode b_LW_law 789 = .ok (.aload_n 3, 1) := by decide +kernel
theorem d_LW_law_790 : decode b_LW_law 790 = .ok (.invokestatic 122, 3) := by decide +kernel
theorem d_LW_law_793 : decode b_LW_law 793 = .ok (.istore 6, 2) := by decide +kernel
theorem d_LW_law_795 : decode b_LW_law 795 = .ok (.aload_n 2, 1) := by decide +kernel
theorem d_LW_law_796 : decode b_LW_law 796 = .ok (.aload_n 0, 1) := by decide +kernel
theorem d_LW_law_797 : decode b_LW_law 797 = .ok (.iload 5, 2) := by decide +kernel
theorem d_LW_law_799 : decode b_LW_law 799 = .ok (.iconst 1, 1) := by decide +kernel
theorem d_LW_law_800 : decode b_LW_law 800 = .ok (.iadd, 1) := by decide +kernel
theorem d_LW_law_801 : decode b_LW_law 801 = .ok (.iaload, 1) := by decide +kernel
theorem d_LW_law_802 : decode b_LW_law 802 = .ok (.aload_n 0, 1) := by decide +kernel
theorem d_LW_law_803 : decode b_LW_law 803 = .ok (.iload 5, 2) := by decide +kernel
theorem d_LW_law_805 : decode b_LW_law 805 = .ok (.iconst 2, 1) := by decide +kernel
theorem d_LW_law_806 : decode b_LW_law 806 = .ok (.iadd, 1) := by decide +kernel
theorem d_LW_law_807 : decode b_LW_law 807 = .ok (.iaload, 1) := by decide +kernel
theorem d_LW_law_808 : decode b_LW_law 808 = .ok (.ifCond .eq 7, 3) := by decide +kernel
theorem d_LW_law_811 : decode b_LW_law 811 = .ok (.iconst 1, 1) := by decide +kernel
theorem d_LW_law_812 : decode b_LW_law 812 = .ok (.goto 4, 3) := by decide +kernel
theorem d_LW_law_815 : decode b_LW_law 815 = .ok (.iconst 0, 1) := by decide +kernel
theorem d_LW_law_816 : decode b_LW_law 816 = .ok (.invokevirtual 125, 3) := by decide +kernel
theorem d_LW_law_819 : decode b_LW_law 819 = .ok (.istore 7, 2) := by decide +kernel
theorem d_LW_law_821 : decode b_LW_law 821 = .ok (.aload_n 2, 1) := by decide +kernel
theorem d_LW_law_822 : decode b_LW_law 822 = .ok (.invokevirtual 91, 3) := by decide +kernel
theorem d_LW_law_825 : decode b_LW_law 825 = .ok (.iload 6, 2) := by decide +kernel
theorem d_LW_law_827 : decode b_LW_law 827 = .ok (.if_icmp .eq 5, 3) := by decide +kernel
theorem d_LW_law_830 : decode b_LW_law 830 = .ok (.iconst 0, 1) := by decide +kernel
theorem d_LW_law_831 : decode b_LW_law 831 = .ok (.ireturn, 1) := by decide +kernel
theorem d_LW_law_832 : decode b_LW_law 832 = .ok (.iload 6, 2) := by decide +kernel
theorem d_LW_law_834 : decode b_LW_law 834 = .ok (.ifCond .ne 15, 3) := by decide +kernel
theorem d_LW_law_837 : decode b_LW_law 837 = .ok (.aload_n 3, 1) := by decide +kernel
theorem d_LW_law_838 : decode b_LW_law 838 = .ok (.iconst 0, 1) := by decide +kernel
theorem d_LW_law_839 : decode b_LW_law 839 = .ok (.laload, 1) := by decide +kernel
theorem d_LW_law_840 : decode b_LW_law 840 = .ok (.iload 7, 2) := by decide +kernel
theorem d_LW_law_842 : decode b_LW_law 842 = .ok (.i2l, 1) := by decide +kernel
theorem d_LW_law_843 : decode b_LW_law 843 = .ok (.lcmp, 1) := by decide +kernel
theorem d_LW_law_844 : decode b_LW_law 844 = .ok (.ifCond .eq 5, 3) := by decide +kernel
theorem d_LW_law_847 : decode b_LW_law 847 = .ok (.iconst 0, 1) := by decide +kernel
theorem d_LW_law_848 : decode b_LW_law 848 = .ok (.ireturn, 1) := by decide +kernel
theorem d_LW_law_849 : decode b_LW_law 849 = .ok (.goto 484, 3) := by decide +kernel
theorem d_LW_law_852 : decode b_LW_law 852 = .ok (.aload_n 1, 1) := by decide +kernel
theorem d_LW_law_853 : decode b_LW_law 853 = .ok (.aload_n 0, 1) := by decide +kernel
theorem d_LW_law_854 : decode b_LW_law 854 = .ok (.iload 5, 2) := by decide +kernel
theorem d_LW_law_856 : decode b_LW_law 856 = .ok (.iconst 1, 1) := by decide +kernel
theorem d_LW_law_857 : decode b_LW_law 857 = .ok (.iadd, 1) := by decide +kernel
theorem d_LW_law_858 : decode b_LW_law 858 = .ok (.iaload, 1) := by decide +kernel
theorem d_LW_law_859 : decode b_LW_law 859 = .ok (.aload_n 3, 1) := by decide +kernel
theorem d_LW_law_860 : decode b_LW_law 860 = .ok (.invokestatic 126, 3) := by decide +kernel
theorem d_LW_law_863 : decode b_LW_law 863 = .ok (.istore 6, 2) := by decide +kernel
theorem d_LW_law_865 : decode b_LW_law 865 = .ok (.aload_n 2, 1) := by decide +kernel
theorem d_LW_law_866 : decode b_LW_law 866 = .ok (.aload_n 0, 1) := by decide +kernel
theorem d_LW_law_867 : decode b_LW_law 867 = .ok (.iload 5, 2) := by decide +kernel
theorem d_LW_law_869 : decode b_LW_law 869 = .ok (.iconst 1, 1) := by decide +kernel
theorem d_LW_law_870 : decode b_LW_law 870 = .ok (.iadd, 1) := by decide +kernel
theorem d_LW_law_871 : decode b_LW_law 871 = .ok (.iaload, 1) := by decide +kernel
theorem d_LW_law_872 : decode b_LW_law 872 = .ok (.invokevirtual 128, 3) := by decide +kernel
theorem d_LW_law_875 : decode b_LW_law 875 = .ok (.istore 7, 2) := by decide +kernel
theorem d_LW_law_877 : decode b_LW_law 877 = .ok (.aload_n 2, 1) := by decide +kernel
theorem d_LW_law_878 : decode b_LW_law 878 = .ok (.invokevirtual 91, 3) := by decide +kernel
theorem d_LW_law_881 : decode b_LW_law 881 = .ok (.iload 6, 2) := by decide +kernel
theorem d_LW_law_883 : decode b_LW_law 883 = .ok (.if_icmp .eq 5, 3) := by decide +kernel
theorem d_LW_law_886 : decode b_LW_law 886 = .ok (.iconst 0, 1) := by decide +kernel
theorem d_LW_law_887 : decode b_LW_law 887 = .ok (.ireturn, 1) := by decide +kernel
theorem d_LW_law_888 : decode b_LW_law 888 = .ok (.iload 6, 2) := by decide +kernel
theorem d_LW_law_890 : decode b_LW_law 890 = .ok (.ifCond .ne 15, 3) := by decide +kernel
theorem d_LW_law_893 : decode b_LW_law 893 = .ok (.aload_n 3, 1) := by decide +kernel
theorem d_LW_law_894 : decode b_LW_law 894 = .ok (.iconst 0, 1) := by decide +kernel
theorem d_LW_law_895 : decode b_LW_law 895 = .ok (.laload, 1) := by decide +kernel
theorem d_LW_law_896 : decode b_LW_law 896 = .ok (.iload 7, 2) := by decide +kernel
theorem d_LW_law_898 : decode b_LW_law 898 = .ok (.i2l, 1) := by decide +kernel
theorem d_LW_law_899 : decode b_LW_law 899 = .ok (.lcmp, 1) := by decide +kernel
theorem d_LW_law_900 : decode b_LW_law 900 = .ok (.ifCond .eq 5, 3) := by decide +kernel
theorem d_LW_law_903 : decode b_LW_law 903 = .ok (.iconst 0, 1) := by decide +kernel
theorem d_LW_law_904 : decode b_LW_law 904 = .ok (.ireturn, 1) := by decide +kernel
theorem d_LW_law_905 : decode b_LW_law 905 = .ok (.goto 428, 3) := by decide +kernel
theorem d_LW_law_908 : decode b_LW_law 908 = .ok (.aload_n 1, 1) := by decide +kernel
theorem d_LW_law_909 : decode b_LW_law 909 = .ok (.aload_n 3, 1) := by decide +kernel
theorem d_LW_law_910 : decode b_LW_law 910 = .ok (.invokestatic 129, 3) := by decide +kernel
theorem d_LW_law_913 : decode b_LW_law 913 = .ok (.istore 6, 2) := by decide +kernel
theorem d_LW_law_915 : decode b_LW_law 915 = .ok (.aload_n 2, 1) := by decide +kernel
theorem d_LW_law_916 : decode b_LW_law 916 = .ok (.invokevirtual 132, 3) := by decide +kernel
theorem d_LW_law_919 : decode b_LW_law 919 = .ok (.istore 7, 2) := by decide +kernel
theorem d_LW_law_921 : decode b_LW_law 921 = .ok (.aload_n 2, 1) := by decide +kernel
theorem d_LW_law_922 : decode b_LW_law 922 = .ok (.invokevirtual 91, 3) := by decide +kernel
theorem d_LW_law_925 : decode b_LW_law 925 = .ok (.iload 6, 2) := by decide +kernel
theorem d_LW_law_927 : decode b_LW_law 927 = .ok (.if_icmp .eq 5, 3) := by decide +kernel
theorem d_LW_law_930 : decode b_LW_law 930 = .ok (.iconst 0, 1) := by decide +kernel
theorem d_LW_law_931 : decode b_LW_law 931 = .ok (.ireturn, 1) := by decide +kernel
theorem d_LW_law_932 : decode b_LW_law 932 = .ok (.iload 6, 2) := by decide +kernel
theorem d_LW_law_934 : decode b_LW_law 934 = .ok (.ifCond .ne 15, 3) := by decide +kernel
theorem d_LW_law_937 : decode b_LW_law 937 = .ok (.aload_n 3, 1) := by decide +kernel
theorem d_LW_law_938 : decode b_LW_law 938 = .ok (.iconst 0, 1) := by decide +kernel
theorem d_LW_law_939 : decode b_LW_law 939 = .ok (.laload, 1) := by decide +kernel
theorem d_LW_law_940 : decode b_LW_law 940 = .ok (.iload 7, 2) := by decide +kernel
theorem d_LW_law_942 : decode b_LW_law 942 = .ok (.i2l, 1) := by decide +kernel
theorem d_LW_law_943 : decode b_LW_law 943 = .ok (.lcmp, 1) := by decide +kernel
theorem d_LW_law_944 : decode b_LW_law 944 = .ok (.ifCond .eq 5, 3) := by decide +kernel
theorem d_LW_law_947 : decode b_LW_law 947 = .ok (.iconst 0, 1) := by decide +kernel
theorem d_LW_law_948 : decode b_LW_law 948 = .ok (.ireturn, 1) := by decide +kernel
theorem d_LW_law_949 : decode b_LW_law 949 = .ok (.goto 384, 3) := by decide +kernel
theorem d_LW_law_952 : decode b_LW_law 952 = .ok (.aload_n 1, 1) := by decide +kernel
theorem d_LW_law_953 : decode b_LW_law 953 = .ok (.invokevirtual 133, 3) := by decide +kernel
theorem d_LW_law_956 : decode b_LW_law 956 = .ok (.aload_n 2, 1) := by decide +kernel
theorem d_LW_law_957 : decode b_LW_law 957 = .ok (.invokevirtual 136, 3) := by decide +kernel
theorem d_LW_law_960 : decode b_LW_law 960 = .ok (.if_icmp .eq 373, 3) := by decide +kernel
theorem d_LW_law_963 : decode b_LW_law 963 = .ok (.iconst 0, 1) := by decide +kernel
theorem d_LW_law_964 : decode b_LW_law 964 = .ok (.ireturn, 1) := by decide +kernel
theorem d_LW_law_965 : decode b_LW_law 965 = .ok (.aload_n 1, 1) := by decide +kernel
theorem d_LW_law_966 : decode b_LW_law 966 = .ok (.aload_n 0, 1) := by decide +kernel
theorem d_LW_law_967 : decode b_LW_law 967 = .ok (.iload 5, 2) := by decide +kernel
theorem d_LW_law_969 : decode b_LW_law 969 = .ok (.iconst 1, 1) := by decide +kernel
theorem d_LW_law_970 : decode b_LW_law 970 = .ok (.iadd, 1) := by decide +kernel
theorem d_LW_law_971 : decode b_LW_law 971 = .ok (.iaload, 1) := by decide +kernel
theorem d_LW_law_972 : decode b_LW_law 972 = .ok (.i2d, 1) := by decide +kernel
theorem d_LW_law_973 : decode b_LW_law 973 = .ok (.ldc2_w 137, 3) := by decide +kernel
theorem d_LW_law_976 : decode b_LW_law 976 = .ok (.dmul, 1) := by decide +kernel
theorem d_LW_law_977 : decode b_LW_law 977 = .ok (.aload 4, 2) := by decide +kernel
theorem d_LW_law_979 : decode b_LW_law 979 = .ok (.invokestatic 139, 3) := by decide +kernel
theorem d_LW_law_982 : decode b_LW_law 982 = .ok (.istore 6, 2) := by decide +kernel
theorem d_LW_law_984 : decode b_LW_law 984 = .ok (.aload_n 2, 1) := by decide +kernel
theorem d_LW_law_985 : decode b_LW_law 985 = .ok (.aload_n 0, 1) := by decide +kernel
theorem d_LW_law_986 : decode b_LW_law 986 = .ok (.iload 5, 2) := by decide +kernel
theorem d_LW_law_988 : decode b_LW_law 988 = .ok (.iconst 1, 1) := by decide +kernel
theorem d_LW_law_989 : decode b_LW_law 989 = .ok (.iadd, 1) := by decide +kernel
theorem d_LW_law_990 : decode b_LW_law 990 = .ok (.iaload, 1) := by decide +kernel
theorem d_LW_law_991 : decode b_LW_law 991 = .ok (.i2d, 1) := by decide +kernel
theorem d_LW_law_992 : decode b_LW_law 992 = .ok (.ldc2_w 137, 3) := by decide +kernel
theorem d_LW_law_995 : decode b_LW_law 995 = .ok (.dmul, 1) := by decide +kernel
theorem d_LW_law_996 : decode b_LW_law 996 = .ok (.invokevirtual 142, 3) := by decide +kernel
theorem d_LW_law_999 : decode b_LW_law 999 = .ok (.dstore 7, 2) := by decide +kernel
theorem d_LW_law_1001 : decode b_LW_law 1001 = .ok (.aload_n 2, 1) := by decide +kernel
theorem d_LW_law_1002 : decode b_LW_law 1002 = .ok (.invokevirtual 91, 3) := by decide +kernel
theorem d_LW_law_1005 : decode b_LW_law 1005 = .ok (.iload 6, 2) := by decide +kernel
theorem d_LW_law_1007 : decode b_LW_law 1007 = .ok (.if_icmp .eq 5, 3) := by decide +kernel
theorem d_LW_law_1010 : decode b_LW_law 1010 = .ok (.iconst 0, 1) := by decide +kernel
theorem d_LW_law_1011 : decode b_LW_law 1011 = .ok (.ireturn, 1) := by decide +kernel
theorem d_LW_law_1012 : decode b_LW_law 1012 = .ok (.iload 6, 2) := by decide +kernel
theorem d_LW_law_1014 : decode b_LW_law 1014 = .ok (.ifCond .ne 35, 3) := by decide +kernel
theorem d_LW_law_1017 : decode b_LW_law 1017 = .ok (.aload 4, 2) := by decide +kernel
theorem d_LW_law_1019 : decode b_LW_law 1019 = .ok (.iconst 0, 1) := by decide +kernel
theorem d_LW_law_1020 : decode b_LW_law 1020 = .ok (.daload, 1) := by decide +kernel
theorem d_LW_law_1021 : decode b_LW_law 1021 = .ok (.dload 7, 2) := by decide +kernel
theorem d_LW_law_1023 : decode b_LW_law 1023 = .ok (.dcmp .l, 1) := by decide +kernel
theorem d_LW_law_1024 : decode b_LW_law 1024 = .ok (.ifCond .eq 25, 3) := by decide +kernel
theorem d_LW_law_1027 : decode b_LW_law 1027 = .ok (.aload 4, 2) := by decide +kernel
theorem d_LW_law_1029 : decode b_LW_law 1029 = .ok (.iconst 0, 1) := by decide +kernel
theorem d_LW_law_1030 : decode b_LW_law 1030 = .ok (.daload, 1) := by decide +kernel
theorem d_LW_law_1031 : decode b_LW_law 1031 = .ok (.aload 4, 2) := by decide +kernel
theorem d_LW_law_1033 : decode b_LW_law 1033 = .ok (.iconst 0, 1) := by decide +kernel
theorem d_LW_law_1034 : decode b_LW_law 1034 = .ok (.daload, 1) := by decide +kernel
theorem d_LW_law_1035 : decode b_LW_law 1035 = .ok (.dcmp .l, 1) := by decide +kernel
theorem d_LW_law_1036 : decode b_LW_law 1036 = .ok (.ifCond .eq 11, 3) := by decide +kernel
theorem d_LW_law_1039 : decode b_LW_law 1039 = .ok (.dload 7, 2) := by decide +kernel
theorem d_LW_law_1041 : decode b_LW_law 1041 = .ok (.dload 7, 2) := by decide +kernel
theorem d_LW_law_1043 : decode b_LW_law 1043 = .ok (.dcmp .l, 1) := by decide +kernel
theorem d_LW_law_1044 : decode b_LW_law 1044 = .ok (.ifCond .ne 5, 3) := by decide +kernel
theorem d_LW_law_1047 : decode b_LW_law 1047 = .ok (.iconst 0, 1) := by decide +kernel
theorem d_LW_law_1048 : decode b_LW_law 1048 = .ok (.ireturn, 1) := by decide +kernel
theorem d_LW_law_1049 : decode b_LW_law 1049 = .ok (.goto 284, 3) := by decide +kernel
theorem d_LW_law_1052 : decode b_LW_law 1052 = .ok (.aload_n 1, 1) := by decide +kernel
theorem d_LW_law_1053 : decode b_LW_law 1053 = .ok (.aload 4, 2) := by decide +kernel
theorem d_LW_law_1055 : decode b_LW_law 1055 = .ok (.invokestatic 143, 3) := by decide +kernel
theorem d_LW_law_1058 : decode b_LW_law 1058 = .ok (.istore 6, 2) := by decide +kernel
theorem d_LW_law_1060 : decode b_LW_law 1060 = .ok (.aload_n 2, 1) := by decide +kernel
theorem d_LW_law_1061 : decode b_LW_law 1061 = .ok (.invokevirtual 146, 3) := by decide +kernel
theorem d_LW_law_1064 : decode b_LW_law 1064 = .ok (.dstore 7, 2) := by decide +kernel
theorem d_LW_law_1066 : decode b_LW_law 1066 = .ok (.aload_n 2, 1) := by decide +kernel
theorem d_LW_law_1067 : decode b_LW_law 1067 = .ok (.invokevirtual 91, 3) := by decide +kernel
theorem d_LW_law_1070 : decode b_LW_law 1070 = .ok (.iload 6, 2) := by decide +kernel
theorem d_LW_law_1072 : decode b_LW_law 1072 = .ok (.if_icmp .eq 5, 3) := by decide +kernel
theorem d_LW_law_1075 : decode b_LW_law 1075 = .ok (.iconst 0, 1) := by decide +kernel
theorem d_LW_law_1076 : decode b_LW_law 1076 = .ok (.ireturn, 1) := by decide +kernel
theorem d_LW_law_1077 : decode b_LW_law 1077 = .ok (.iload 6, 2) := by decide +kernel
theorem d_LW_law_1079 : decode b_LW_law 1079 = .ok (.ifCond .ne 35, 3) := by decide +kernel
theorem d_LW_law_1082 : decode b_LW_law 1082 = .ok (.aload 4, 2) := by decide +kernel
theorem d_LW_law_1084 : decode b_LW_law 1084 = .ok (.iconst 0, 1) := by decide +kernel
theorem d_LW_law_1085 : decode b_LW_law 1085 = .ok (.daload, 1) := by decide +kernel
theorem d_LW_law_1086 : decode b_LW_law 1086 = .ok (.dload 7, 2) := by decide +kernel
theorem d_LW_law_1088 : decode b_LW_law 1088 = .ok (.dcmp .l, 1) := by decide +kernel
theorem d_LW_law_1089 : decode b_LW_law 1089 = .ok (.ifCond .eq 25, 3) := by decide +kernel
theorem d_LW_law_1092 : decode b_LW_law 1092 = .ok (.aload 4, 2) := by decide +kernel
theorem d_LW_law_1094 : decode b_LW_law 1094 = .ok (.iconst 0, 1) := by decide +kernel
theorem d_LW_law_1095 : decode b_LW_law 1095 = .ok (.daload, 1) := by decide +kernel
theorem d_LW_law_1096 : decode b_LW_law 1096 = .ok (.aload 4, 2) := by decide +kernel
theorem d_LW_law_1098 : decode b_LW_law 1098 = .ok (.iconst 0, 1) := by decide +kernel
theorem d_LW_law_1099 : decode b_LW_law 1099 = .ok (.daload, 1) := by decide +kernel
theorem d_LW_law_1100 : decode b_LW_law 1100 = .ok (.dcmp .l, 1) := by decide +kernel
theorem d_LW_law_1101 : decode b_LW_law 1101 = .ok (.ifCond .eq 11, 3) := by decide +kernel
theorem d_LW_law_1104 : decode b_LW_law 1104 = .ok (.dload 7, 2) := by decide +kernel
theorem d_LW_law_1106 : decode b_LW_law 1106 = .ok (.dload 7, 2) := by decide +kernel
theorem d_LW_law_1108 : decode b_LW_law 1108 = .ok (.dcmp .l, 1) := by decide +kernel
theorem d_LW_law_1109 : decode b_LW_law 1109 = .ok (.ifCond .ne 5, 3) := by decide +kernel
theorem d_LW_law_1112 : decode b_LW_law 1112 = .ok (.iconst 0, 1) := by decide +kernel
theorem d_LW_law_1113 : decode b_LW_law 1113 = .ok (.ireturn, 1) := by decide +kernel
theorem d_LW_law_1114 : decode b_LW_law 1114 = .ok (.goto 219, 3) := by decide +kernel
theorem d_LW_law_1117 : decode b_LW_law 1117 = .ok (.aload_n 1, 1) := by decide +kernel
theorem d_LW_law_1118 : decode b_LW_law 1118 = .ok (.aload_n 0, 1) := by decide +kernel
theorem d_LW_law_1119 : decode b_LW_law 1119 = .ok (.iload 5, 2) := by decide +kernel
theorem d_LW_law_1121 : decode b_LW_law 1121 = .ok (.iconst 1, 1) := by decide +kernel
theorem d_LW_law_1122 : decode b_LW_law 1122 = .ok (.iadd, 1) := by decide +kernel
theorem d_LW_law_1123 : decode b_LW_law 1123 = .ok (.iaload, 1) := by decide +kernel
theorem d_LW_law_1124 : decode b_LW_law 1124 = .ok (.aload_n 0, 1) := by decide +kernel
theorem d_LW_law_1125 : decode b_LW_law 1125 = .ok (.iload 5, 2) := by decide +kernel
theorem d_LW_law_1127 : decode b_LW_law 1127 = .ok (.iconst 2, 1) := by decide +kernel
theorem d_LW_law_1128 : decode b_LW_law 1128 = .ok (.iadd, 1) := by decide +kernel
theorem d_LW_law_1129 : decode b_LW_law 1129 = .ok (.iaload, 1) := by decide +kernel
theorem d_LW_law_1130 : decode b_LW_law 1130 = .ok (.aload_n 0, 1) := by decide +kernel
theorem d_LW_law_1131 : decode b_LW_law 1131 = .ok (.iload 5, 2) := by decide +kernel
theorem d_LW_law_1133 : decode b_LW_law 1133 = .ok (.iconst 3, 1) := by decide +kernel
theorem d_LW_law_1134 : decode b_LW_law 1134 = .ok (.iadd, 1) := by decide +kernel
theorem d_LW_law_1135 : decode b_LW_law 1135 = .ok (.iaload, 1) := by decide +kernel
theorem d_LW_law_1136 : decode b_LW_law 1136 = .ok (.aload_n 3, 1) := by decide +kernel
theorem d_LW_law_1137 : decode b_LW_law 1137 = .ok (.invokestatic 147, 3) := by decide +kernel
theorem d_LW_law_1140 : decode b_LW_law 1140 = .ok (.istore 6, 2) := by decide +kernel
theorem d_LW_law_1142 : decode b_LW_law 1142 = .ok (.aload_n 2, 1) := by decide +kernel
theorem d_LW_law_1143 : decode b_LW_law 1143 = .ok (.aload_n 0, 1) := by decide +kernel
theorem d_LW_law_1144 : decode b_LW_law 1144 = .ok (.iload 5, 2) := by decide +kernel
theorem d_LW_law_1146 : decode b_LW_law 1146 = .ok (.iconst 1, 1) := by decide +kernel
theorem d_LW_law_1147 : decode b_LW_law 1147 = .ok (.iadd, 1) := by decide +kernel
theorem d_LW_law_1148 : decode b_LW_law 1148 = .ok (.iaload, 1) := by decide +kernel
theorem d_LW_law_1149 : decode b_LW_law 1149 = .ok (.aload_n 0, 1) := by decide +kernel
theorem d_LW_law_1150 : decode b_LW_law 1150 = .ok (.iload 5, 2) := by decide +kernel
theorem d_LW_law_1152 : decode b_LW_law 1152 = .ok (.iconst 2, 1) := by decide +kernel
theorem d_LW_law_1153 : decode b_LW_law 1153 = .ok (.iadd, 1) := by decide +kernel
theorem d_LW_law_1154 : decode b_LW_law 1154 = .ok (.iaload, 1) := by decide +kernel
theorem d_LW_law_1155 : decode b_LW_law 1155 = .ok (.aload_n 0, 1) := by decide +kernel
theorem d_LW_law_1156 : decode b_LW_law 1156 = .ok (.iload 5, 2) := by decide +kernel
theorem d_LW_law_1158 : decode b_LW_law 1158 = .ok (.iconst 3, 1) := by decide +kernel
theorem d_LW_law_1159 : decode b_LW_law 1159 = .ok (.iadd, 1) := by decide +kernel
theorem d_LW_law_1160 : decode b_LW_law 1160 = .ok (.iaload, 1) := by decide +kernel
theorem d_LW_law_1161 : decode b_LW_law 1161 = .ok (.invokevirtual 149, 3) := by decide +kernel
theorem d_LW_law_1164 : decode b_LW_law 1164 = .ok (.istore 7, 2) := by decide +kernel
theorem d_LW_law_1166 : decode b_LW_law 1166 = .ok (.aload_n 2, 1) := by decide +kernel
theorem d_LW_law_1167 : decode b_LW_law 1167 = .ok (.invokevirtual 91, 3) := by decide +kernel
theorem d_LW_law_1170 : decode b_LW_law 1170 = .ok (.iload 6, 2) := by decide +kernel
theorem d_LW_law_1172 : decode b_LW_law 1172 = .ok (.if_icmp .eq 5, 3) := by decide +kernel
theorem d_LW_law_1175 : decode b_LW_law 1175 = .ok (.iconst 0, 1) := by decide +kernel
theorem d_LW_law_1176 : decode b_LW_law 1176 = .ok (.ireturn, 1) := by decide +kernel
theorem d_LW_law_1177 : decode b_LW_law 1177 = .ok (.iload 6, 2) := by decide +kernel
theorem d_LW_law_1179 : decode b_LW_law 1179 = .ok (.ifCond .ne 15, 3) := by decide +kernel
theorem d_LW_law_1182 : decode b_LW_law 1182 = .ok (.aload_n 3, 1) := by decide +kernel
theorem d_LW_law_1183 : decode b_LW_law 1183 = .ok (.iconst 0, 1) := by decide +kernel
theorem d_LW_law_1184 : decode b_LW_law 1184 = .ok (.laload, 1) := by decide +kernel
theorem d_LW_law_1185 : decode b_LW_law 1185 = .ok (.iload 7, 2) := by decide +kernel
theorem d_LW_law_1187 : decode b_LW_law 1187 = .ok (.i2l, 1) := by decide +kernel
theorem d_LW_law_1188 : decode b_LW_law 1188 = .ok (.lcmp, 1) := by decide +kernel
theorem d_LW_law_1189 : decode b_LW_law 1189 = .ok (.ifCond .eq 5, 3) := by decide +kernel
theorem d_LW_law_1192 : decode b_LW_law 1192 = .ok (.iconst 0, 1) := by decide +kernel
theorem d_LW_law_1193 : decode b_LW_law 1193 = .ok (.ireturn, 1) := by decide +kernel
theorem d_LW_law_1194 : decode b_LW_law 1194 = .ok (.goto 139, 3) := by decide +kernel
theorem d_LW_law_1197 : decode b_LW_law 1197 = .ok (.aload_n 1, 1) := by decide +kernel
theorem d_LW_law_1198 : decode b_LW_law 1198 = .ok (.aload_n 0, 1) := by decide +kernel
theorem d_LW_law_1199 : decode b_LW_law 1199 = .ok (.iload 5, 2) := by decide +kernel
theorem d_LW_law_1201 : decode b_LW_law 1201 = .ok (.iconst 1, 1) := by decide +kernel
theorem d_LW_law_1202 : decode b_LW_law 1202 = .ok (.iadd, 1) := by decide +kernel
theorem d_LW_law_1203 : decode b_LW_law 1203 = .ok (.iaload, 1) := by decide +kernel
theorem d_LW_law_1204 : decode b_LW_law 1204 = .ok (.aload_n 0, 1) := by decide +kernel
theorem d_LW_law_1205 : decode b_LW_law 1205 = .ok (.iload 5, 2) := by decide +kernel
theorem d_LW_law_1207 : decode b_LW_law 1207 = .ok (.iconst 2, 1) := by decide +kernel
theorem d_LW_law_1208 : decode b_LW_law 1208 = .ok (.iadd, 1) := by decide +kernel
theorem d_LW_law_1209 : decode b_LW_law 1209 = .ok (.iaload, 1) := by decide +kernel
theorem d_LW_law_1210 : decode b_LW_law 1210 = .ok (.aload_n 3, 1) := by decide +kernel
theorem d_LW_law_1211 : decode b_LW_law 1211 = .ok (.invokestatic 150, 3) := by decide +kernel
theorem d_LW_law_1214 : decode b_LW_law 1214 = .ok (.istore 6, 2) := by decide +kernel
theorem d_LW_law_1216 : decode b_LW_law 1216 = .ok (.aload_n 2, 1) := by decide +kernel
theorem d_LW_law_1217 : decode b_LW_law 1217 = .ok (.aload_n 0, 1) := by decide +kernel
theorem d_LW_law_1218 : decode b_LW_law 1218 = .ok (.iload 5, 2) := by decide +kernel
theorem d_LW_law_1220 : decode b_LW_law 1220 = .ok (.iconst 1, 1) := by decide +kernel
theorem d_LW_law_1221 : decode b_LW_law 1221 = .ok (.iadd, 1) := by decide +kernel
theorem d_LW_law_1222 : decode b_LW_law 1222 = .ok (.iaload, 1) := by decide +kernel
theorem d_LW_law_1223 : decode b_LW_law 1223 = .ok (.aload_n 0, 1) := by decide +kernel
theorem d_LW_law_1224 : decode b_LW_law 1224 = .ok (.iload 5, 2) := by decide +kernel
theorem d_LW_law_1226 : decode b_LW_law 1226 = .ok (.iconst 2, 1) := by decide +kernel
theorem d_LW_law_1227 : decode b_LW_law 1227 = .ok (.iadd, 1) := by decide +kernel
theorem d_LW_law_1228 : decode b_LW_law 1228 = .ok (.iaload, 1) := by decide +kernel
theorem d_LW_law_1229 : decode b_LW_law 1229 = .ok (.invokevirtual 152, 3) := by decide +kernel
theorem d_LW_law_1232 : decode b_LW_law 1232 = .ok (.istore 7, 2) := by decide +kernel
theorem d_LW_law_1234 : decode b_LW_law 1234 = .ok (.aload_n 2, 1) := by decide +kernel
theorem d_LW_law_1235 : decode b_LW_law 1235 = .ok (.invokevirtual 91, 3) := by decide +kernel
theorem d_LW_law_1238 : decode b_LW_law 1238 = .ok (.iload 6, 2) := by decide +kernel
theorem d_LW_law_1240 : decode b_LW_law 1240 = .ok (.if_icmp .eq 5, 3) := by decide +kernel
theorem d_LW_law_1243 : decode b_LW_law 1243 = .ok (.iconst 0, 1) := by decide +kernel
theorem d_LW_law_1244 : decode b_LW_law 1244 = .ok (.ireturn, 1) := by decide +kernel
theorem d_LW_law_1245 : decode b_LW_law 1245 = .ok (.iload 6, 2) := by decide +kernel
theorem d_LW_law_1247 : decode b_LW_law 1247 = .ok (.ifCond .ne 15, 3) := by decide +kernel
theorem d_LW_law_1250 : decode b_LW_law 1250 = .ok (.aload_n 3, 1) := by decide +kernel
theorem d_LW_law_1251 : decode b_LW_law 1251 = .ok (.iconst 0, 1) := by decide +kernel
theorem d_LW_law_1252 : decode b_LW_law 1252 = .ok (.laload, 1) := by decide +kernel
theorem d_LW_law_1253 : decode b_LW_law 1253 = .ok (.iload 7, 2) := by decide +kernel
theorem d_LW_law_1255 : decode b_LW_law 1255 = .ok (.i2l, 1) := by decide +kernel
theorem d_LW_law_1256 : decode b_LW_law 1256 = .ok (.lcmp, 1) := by decide +kernel
theorem d_LW_law_1257 : decode b_LW_law 1257 = .ok (.ifCond .eq 5, 3) := by decide +kernel
theorem d_LW_law_1260 : decode b_LW_law 1260 = .ok (.iconst 0, 1) := by decide +kernel
theorem d_LW_law_1261 : decode b_LW_law 1261 = .ok (.ireturn, 1) := by decide +kernel
theorem d_LW_law_1262 : decode b_LW_law 1262 = .ok (.goto 71, 3) := by decide +kernel
theorem d_LW_law_1265 : decode b_LW_law 1265 = .ok (.aload_n 1, 1) := by decide +kernel
theorem d_LW_law_1266 : decode b_LW_law 1266 = .ok (.aload_n 0, 1) := by decide +kernel
theorem d_LW_law_1267 : decode b_LW_law 1267 = .ok (.iload 5, 2) := by decide +kernel
theorem d_LW_law_1269 : decode b_LW_law 1269 = .ok (.iconst 1, 1) := by decide +kernel
theorem d_LW_law_1270 : decode b_LW_law 1270 = .ok (.iadd, 1) := by decide +kernel
theorem d_LW_law_1271 : decode b_LW_law 1271 = .ok (.iaload, 1) := by decide +kernel
theorem d_LW_law_1272 : decode b_LW_law 1272 = .ok (.aload_n 0, 1) := by decide +kernel
theorem d_LW_law_1273 : decode b_LW_law 1273 = .ok (.iload 5, 2) := by decide +kernel
theorem d_LW_law_1275 : decode b_LW_law 1275 = .ok (.iconst 2, 1) := by decide +kernel
theorem d_LW_law_1276 : decode b_LW_law 1276 = .ok (.iadd, 1) := by decide +kernel
theorem d_LW_law_1277 : decode b_LW_law 1277 = .ok (.iaload, 1) := by decide +kernel
theorem d_LW_law_1278 : decode b_LW_law 1278 = .ok (.aload_n 3, 1) := by decide +kernel
theorem d_LW_law_1279 : decode b_LW_law 1279 = .ok (.invokestatic 153, 3) := by decide +kernel
theorem d_LW_law_1282 : decode b_LW_law 1282 = .ok (.istore 6, 2) := by decide +kernel
theorem d_LW_law_1284 : decode b_LW_law 1284 = .ok (.aload_n 2, 1) := by decide +kernel
theorem d_LW_law_1285 : decode b_LW_law 1285 = .ok (.aload_n 0, 1) := by decide +kernel
theorem d_LW_law_1286 : decode b_LW_law 1286 = .ok (.iload 5, 2) := by decide +kernel
theorem d_LW_law_1288 : decode b_LW_law 1288 = .ok (.iconst 1, 1) := by decide +kernel
theorem d_LW_law_1289 : decode b_LW_law 1289 = .ok (.iadd, 1) := by decide +kernel
theorem d_LW_law_1290 : decode b_LW_law 1290 = .ok (.iaload, 1) := by decide +kernel
theorem d_LW_law_1291 : decode b_LW_law 1291 = .ok (.aload_n 0, 1) := by decide +kernel
theorem d_LW_law_1292 : decode b_LW_law 1292 = .ok (.iload 5, 2) := by decide +kernel
theorem d_LW_law_1294 : decode b_LW_law 1294 = .ok (.iconst 2, 1) := by decide +kernel
theorem d_LW_law_1295 : decode b_LW_law 1295 = .ok (.iadd, 1) := by decide +kernel
theorem d_LW_law_1296 : decode b_LW_law 1296 = .ok (.iaload, 1) := by decide +kernel
theorem d_LW_law_1297 : decode b_LW_law 1297 = .ok (.invokevirtual 155, 3) := by decide +kernel
theorem d_LW_law_1300 : decode b_LW_law 1300 = .ok (.istore 7, 2) := by decide +kernel
theorem d_LW_law_1302 : decode b_LW_law 1302 = .ok (.aload_n 2, 1) := by decide +kernel
theorem d_LW_law_1303 : decode b_LW_law 1303 = .ok (.invokevirtual 91, 3) := by decide +kernel
theorem d_LW_law_1306 : decode b_LW_law 1306 = .ok (.iload 6, 2) := by decide +kernel
theorem d_LW_law_1308 : decode b_LW_law 1308 = .ok (.if_icmp .eq 5, 3) := by decide +kernel
theorem d_LW_law_1311 : decode b_LW_law 1311 = .ok (.iconst 0, 1) := by decide +kernel
theorem d_LW_law_1312 : decode b_LW_law 1312 = .ok (.ireturn, 1) := by decide +kernel
theorem d_LW_law_1313 : decode b_LW_law 1313 = .ok (.iload 6, 2) := by decide +kernel
theorem d_LW_law_1315 : decode b_LW_law 1315 = .ok (.ifCond .ne 15, 3) := by decide +kernel
theorem d_LW_law_1318 : decode b_LW_law 1318 = .ok (.aload_n 3, 1) := by decide +kernel
theorem d_LW_law_1319 : decode b_LW_law 1319 = .ok (.iconst 0, 1) := by decide +kernel
theorem d_LW_law_1320 : decode b_LW_law 1320 = .ok (.laload, 1) := by decide +kernel
theorem d_LW_law_1321 : decode b_LW_law 1321 = .ok (.iload 7, 2) := by decide +kernel
theorem d_LW_law_1323 : decode b_LW_law 1323 = .ok (.i2l, 1) := by decide +kernel
theorem d_LW_law_1324 : decode b_LW_law 1324 = .ok (.lcmp, 1) := by decide +kernel
theorem d_LW_law_1325 : decode b_LW_law 1325 = .ok (.ifCond .eq 5, 3) := by decide +kernel
theorem d_LW_law_1328 : decode b_LW_law 1328 = .ok (.iconst 0, 1) := by decide +kernel
theorem d_LW_law_1329 : decode b_LW_law 1329 = .ok (.ireturn, 1) := by decide +kernel
theorem d_LW_law_1330 : decode b_LW_law 1330 = .ok (.goto 3, 3) := by decide +kernel
theorem d_LW_law_1333 : decode b_LW_law 1333 = .ok (.iinc 5 6, 3) := by decide +kernel
theorem d_LW_law_1336 : decode b_LW_law 1336 = .ok (.goto (-1308), 3) := by decide +kernel
theorem d_LW_law_1339 : decode b_LW_law 1339 = .ok (.iconst 1, 1) := by decide +kernel
theorem d_LW_law_1340 : decode b_LW_law 1340 = .ok (.ireturn, 1) := by decide +kernel
end XDL
