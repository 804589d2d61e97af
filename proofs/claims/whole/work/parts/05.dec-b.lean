theorem d_MA_keep_0 : decode b_MA_keep 0 = .ok (.aload_n 0, 1) := by decide +kernel
theorem d_MA_keep_1 : decode b_MA_keep 1 = .ok (.getfield 25, 3) := by decide +kernel
theorem d_MA_keep_4 : decode b_MA_keep 4 = .ok (.bipush 24, 2) := by decide +kernel
theorem d_MA_keep_6 : decode b_MA_keep 6 = .ok (.if_icmp .ge 13, 3) := by decide +kernel
theorem d_MA_keep_9 : decode b_MA_keep 9 = .ok (.aload_n 0, 1) := by decide +kernel
theorem d_MA_keep_10 : decode b_MA_keep 10 = .ok (.getfield 18, 3) := by decide +kernel
theorem d_MA_keep_13 : decode b_MA_keep 13 = .ok (.aload_n 0, 1) := by decide +kernel
theorem d_MA_keep_14 : decode b_MA_keep 14 = .ok (.getfield 25, 3) := by decide +kernel
theorem d_MA_keep_17 : decode b_MA_keep 17 = .ok (.iload_n 1, 1) := by decide +kernel
theorem d_MA_keep_18 : decode b_MA_keep 18 = .ok (.iastore, 1) := by decide +kernel
theorem d_MA_keep_19 : decode b_MA_keep 19 = .ok (.aload_n 0, 1) := by decide +kernel
theorem d_MA_keep_20 : decode b_MA_keep 20 = .ok (.dup, 1) := by decide +kernel
theorem d_MA_keep_21 : decode b_MA_keep 21 = .ok (.getfield 25, 3) := by decide +kernel
theorem d_MA_keep_24 : decode b_MA_keep 24 = .ok (.iconst 1, 1) := by decide +kernel
theorem d_MA_keep_25 : decode b_MA_keep 25 = .ok (.iadd, 1) := by decide +kernel
theorem d_MA_keep_26 : decode b_MA_keep 26 = .ok (.putfield 25, 3) := by decide +kernel
theorem d_MA_keep_29 : decode b_MA_keep 29 = .ok (.return_, 1) := by decide +kernel
theorem d_MA_leaveEndedBlocks_0 : decode b_MA_leaveEndedBlocks 0 = .ok (.iconst 0, 1) := by decide +kernel
theorem d_MA_leaveEndedBlocks_1 : decode b_MA_leaveEndedBlocks 1 = .ok (.istore_n 2, 1) := by decide +kernel
theorem d_MA_leaveEndedBlocks_2 : decode b_MA_leaveEndedBlocks 2 = .ok (.iload_n 2, 1) := by decide +kernel
theorem d_MA_leaveEndedBlocks_3 : decode b_MA_leaveEndedBlocks 3 = .ok (.sipush 156, 3) := by decide +kernel
theorem d_MA_leaveEndedBlocks_6 : decode b_MA_leaveEndedBlocks 6 = .ok (.if_icmp .ge 92, 3) := by decide +kernel
theorem d_MA_leaveEndedBlocks_9 : decode b_MA_leaveEndedBlocks 9 = .ok (.aload_n 0, 1) := by decide +kernel
theorem d_MA_leaveEndedBlocks_10 : decode b_MA_leaveEndedBlocks 10 = .ok (.aload_n 1, 1) := by decide +kernel
theorem d_MA_leaveEndedBlocks_11 : decode b_MA_leaveEndedBlocks 11 = .ok (.invokevirtual 32, 3) := by decide +kernel
theorem d_MA_leaveEndedBlocks_14 : decode b_MA_leaveEndedBlocks 14 = .ok (.astore_n 3, 1) := by decide +kernel
theorem d_MA_leaveEndedBlocks_15 : decode b_MA_leaveEndedBlocks 15 = .ok (.aload_n 3, 1) := by decide +kernel
theorem d_MA_leaveEndedBlocks_16 : decode b_MA_leaveEndedBlocks 16 = .ok (.ifnull 23, 3) := by decide +kernel
theorem d_MA_leaveEndedBlocks_19 : decode b_MA_leaveEndedBlocks 19 = .ok (.aload_n 3, 1) := by decide +kernel
theorem d_MA_leaveEndedBlocks_20 : decode b_MA_leaveEndedBlocks 20 = .ok (.aload_n 0, 1) := by decide +kernel
theorem d_MA_leaveEndedBlocks_21 : decode b_MA_leaveEndedBlocks 21 = .ok (.getfield 15, 3) := by decide +kernel
theorem d_MA_leaveEndedBlocks_24 : decode b_MA_leaveEndedBlocks 24 = .ok (.aload_n 0, 1) := by decide +kernel
theorem d_MA_leaveEndedBlocks_25 : decode b_MA_leaveEndedBlocks 25 = .ok (.getfield 21, 3) := by decide +kernel
theorem d_MA_leaveEndedBlocks_28 : decode b_MA_leaveEndedBlocks 28 = .ok (.iconst 1, 1) := by decide +kernel
theorem d_MA_leaveEndedBlocks_29 : decode b_MA_leaveEndedBlocks 29 = .ok (.isub, 1) := by decide +kernel
theorem d_MA_leaveEndedBlocks_30 : decode b_MA_leaveEndedBlocks 30 = .ok (.iaload, 1) := by decide +kernel
theorem d_MA_leaveEndedBlocks_31 : decode b_MA_leaveEndedBlocks 31 = .ok (.invokevirtual 50, 3) := by decide +kernel
theorem d_MA_leaveEndedBlocks_34 : decode b_MA_leaveEndedBlocks 34 = .ok (.bipush 125, 2) := by decide +kernel
theorem d_MA_leaveEndedBlocks_36 : decode b_MA_leaveEndedBlocks 36 = .ok (.if_icmp .eq 4, 3) := by decide +kernel
theorem d_MA_leaveEndedBlocks_39 : decode b_MA_leaveEndedBlocks 39 = .ok (.return_, 1) := by decide +kernel
theorem d_MA_leaveEndedBlocks_40 : decode b_MA_leaveEndedBlocks 40 = .ok (.aload_n 0, 1) := by decide +kernel
theorem d_MA_leaveEndedBlocks_41 : decode b_MA_leaveEndedBlocks 41 = .ok (.getfield 15, 3) := by decide +kernel
theorem d_MA_leaveEndedBlocks_44 : decode b_MA_leaveEndedBlocks 44 = .ok (.aload_n 0, 1) := by decide +kernel
theorem d_MA_leaveEndedBlocks_45 : decode b_MA_leaveEndedBlocks 45 = .ok (.getfield 21, 3) := by decide +kernel
theorem d_MA_leaveEndedBlocks_48 : decode b_MA_leaveEndedBlocks 48 = .ok (.iconst 1, 1) := by decide +kernel
theorem d_MA_leaveEndedBlocks_49 : decode b_MA_leaveEndedBlocks 49 = .ok (.isub, 1) := by decide +kernel
theorem d_MA_leaveEndedBlocks_50 : decode b_MA_leaveEndedBlocks 50 = .ok (.iaload, 1) := by decide +kernel
theorem d_MA_leaveEndedBlocks_51 : decode b_MA_leaveEndedBlocks 51 = .ok (.istore 4, 2) := by decide +kernel
theorem d_MA_leaveEndedBlocks_53 : decode b_MA_leaveEndedBlocks 53 = .ok (.aload_n 3, 1) := by decide +kernel
theorem d_MA_leaveEndedBlocks_54 : decode b_MA_leaveEndedBlocks 54 = .ok (.iload 4, 2) := by decide +kernel
theorem d_MA_leaveEndedBlocks_56 : decode b_MA_leaveEndedBlocks 56 = .ok (.invokevirtual 93, 3) := by decide +kernel
theorem d_MA_leaveEndedBlocks_59 : decode b_MA_leaveEndedBlocks 59 = .ok (.ifCond .eq 16, 3) := by decide +kernel
theorem d_MA_leaveEndedBlocks_62 : decode b_MA_leaveEndedBlocks 62 = .ok (.aload_n 0, 1) := by decide +kernel
theorem d_MA_leaveEndedBlocks_63 : decode b_MA_leaveEndedBlocks 63 = .ok (.dup, 1) := by decide +kernel
theorem d_MA_leaveEndedBlocks_64 : decode b_MA_leaveEndedBlocks 64 = .ok (.getfield 21, 3) := by decide +kernel
theorem d_MA_leaveEndedBlocks_67 : decode b_MA_leaveEndedBlocks 67 = .ok (.iconst 1, 1) := by decide +kernel
theorem d_MA_leaveEndedBlocks_68 : decode b_MA_leaveEndedBlocks 68 = .ok (.isub, 1) := by decide +kernel
theorem d_MA_leaveEndedBlocks_69 : decode b_MA_leaveEndedBlocks 69 = .ok (.putfield 21, 3) := by decide +kernel
theorem d_MA_leaveEndedBlocks_72 : decode b_MA_leaveEndedBlocks 72 = .ok (.goto 20, 3) := by decide +kernel
theorem d_MA_leaveEndedBlocks_75 : decode b_MA_leaveEndedBlocks 75 = .ok (.aload_n 0, 1) := by decide +kernel
theorem d_MA_leaveEndedBlocks_76 : decode b_MA_leaveEndedBlocks 76 = .ok (.getfield 15, 3) := by decide +kernel
theorem d_MA_leaveEndedBlocks_79 : decode b_MA_leaveEndedBlocks 79 = .ok (.aload_n 0, 1) := by decide +kernel
theorem d_MA_leaveEndedBlocks_80 : decode b_MA_leaveEndedBlocks 80 = .ok (.getfield 21, 3) := by decide +kernel
theorem d_MA_leaveEndedBlocks_83 : decode b_MA_leaveEndedBlocks 83 = .ok (.iconst 1, 1) := by decide +kernel
theorem d_MA_leaveEndedBlocks_84 : decode b_MA_leaveEndedBlocks 84 = .ok (.isub, 1) := by decide +kernel
theorem d_MA_leaveEndedBlocks_85 : decode b_MA_leaveEndedBlocks 85 = .ok (.aload_n 3, 1) := by decide +kernel
theorem d_MA_leaveEndedBlocks_86 : decode b_MA_leaveEndedBlocks 86 = .ok (.iload 4, 2) := by decide +kernel
theorem d_MA_leaveEndedBlocks_88 : decode b_MA_leaveEndedBlocks 88 = .ok (.invokevirtual 96, 3) := by decide +kernel
theorem d_MA_leaveEndedBlocks_91 : decode b_MA_leaveEndedBlocks 91 = .ok (.iastore, 1) := by decide +kernel
theorem d_MA_leaveEndedBlocks_92 : decode b_MA_leaveEndedBlocks 92 = .ok (.iinc 2 1, 3) := by decide +kernel
theorem d_MA_leaveEndedBlocks_95 : decode b_MA_leaveEndedBlocks 95 = .ok (.goto (-93), 3) := by decide +kernel
theorem d_MA_leaveEndedBlocks_98 : decode b_MA_leaveEndedBlocks 98 = .ok (.return_, 1) := by decide +kernel
theorem d_MT_init_0 : decode b_MT_init 0 = .ok (.aload_n 0, 1) := by decide +kernel
theorem d_MT_init_1 : decode b_MT_init 1 = .ok (.invokespecial 3, 3) := by decide +kernel
theorem d_MT_init_4 : decode b_MT_init 4 = .ok (.aload_n 0, 1) := by decide +kernel
theorem d_MT_init_5 : decode b_MT_init 5 = .ok (.bipush 60, 2) := by decide +kernel
theorem d_MT_init_7 : decode b_MT_init 7 = .ok (.newarray .int, 2) := by decide +kernel
theorem d_MT_init_9 : decode b_MT_init 9 = .ok (.putfield 9, 3) := by decide +kernel
theorem d_MT_init_12 : decode b_MT_init 12 = .ok (.aload_n 0, 1) := by decide +kernel
theorem d_MT_init_13 : decode b_MT_init 13 = .ok (.bipush 60, 2) := by decide +kernel
theorem d_MT_init_15 : decode b_MT_init 15 = .ok (.newarray .int, 2) := by decide +kernel
theorem d_MT_init_17 : decode b_MT_init 17 = .ok (.putfield 15, 3) := by decide +kernel
theorem d_MT_init_20 : decode b_MT_init 20 = .ok (.aload_n 0, 1) := by decide +kernel
theorem d_MT_init_21 : decode b_MT_init 21 = .ok (.bipush 60, 2) := by decide +kernel
theorem d_MT_init_23 : decode b_MT_init 23 = .ok (.newarray .int, 2) := by decide +kernel
theorem d_MT_init_25 : decode b_MT_init 25 = .ok (.putfield 18, 3) := by decide +kernel
theorem d_MT_init_28 : decode b_MT_init 28 = .ok (.aload_n 0, 1) := by decide +kernel
theorem d_MT_init_29 : decode b_MT_init 29 = .ok (.bipush 60, 2) := by decide +kernel
theorem d_MT_init_31 : decode b_MT_init 31 = .ok (.newarray .int, 2) := by decide +kernel
theorem d_MT_init_33 : decode b_MT_init 33 = .ok (.putfield 21, 3) := by decide +kernel
theorem d_MT_init_36 : decode b_MT_init 36 = .ok (.aload_n 0, 1) := by decide +kernel
theorem d_MT_init_37 : decode b_MT_init 37 = .ok (.bipush 26, 2) := by decide +kernel
theorem d_MT_init_39 : decode b_MT_init 39 = .ok (.newarray .int, 2) := by decide +kernel
theorem d_MT_init_41 : decode b_MT_init 41 = .ok (.putfield 24, 3) := by decide +kernel
theorem d_MT_init_44 : decode b_MT_init 44 = .ok (.aload_n 0, 1) := by decide +kernel
theorem d_MT_init_45 : decode b_MT_init 45 = .ok (.bipush 26, 2) := by decide +kernel
theorem d_MT_init_47 : decode b_MT_init 47 = .ok (.newarray .int, 2) := by decide +kernel
theorem d_MT_init_49 : decode b_MT_init 49 = .ok (.putfield 27, 3) := by decide +kernel
theorem d_MT_init_52 : decode b_MT_init 52 = .ok (.aload_n 0, 1) := by decide +kernel
theorem d_MT_init_53 : decode b_MT_init 53 = .ok (.iconst 1, 1) := by decide +kernel
theorem d_MT_init_54 : decode b_MT_init 54 = .ok (.putfield 30, 3) := by decide +kernel
theorem d_MT_init_57 : decode b_MT_init 57 = .ok (.return_, 1) := by decide +kernel
theorem d_MT_append_0 : decode b_MT_append 0 = .ok (.aload_n 0, 1) := by decide +kernel
theorem d_MT_append_1 : decode b_MT_append 1 = .ok (.getfield 34, 3) := by decide +kernel
theorem d_MT_append_4 : decode b_MT_append 4 = .ok (.bipush 60, 2) := by decide +kernel
theorem d_MT_append_6 : decode b_MT_append 6 = .ok (.if_icmp .lt 5, 3) := by decide +kernel
theorem d_MT_append_9 : decode b_MT_append 9 = .ok (.iconst 0, 1) := by decide +kernel
theorem d_MT_append_10 : decode b_MT_append 10 = .ok (.ireturn, 1) := by decide +kernel
theorem d_MT_append_11 : decode b_MT_append 11 = .ok (.aload_n 0, 1) := by decide +kernel
theorem d_MT_append_12 : decode b_MT_append 12 = .ok (.getfield 9, 3) := by decide +kernel
theorem d_MT_append_15 : decode b_MT_append 15 = .ok (.aload_n 0, 1) := by decide +kernel
theorem d_MT_append_16 : decode b_MT_append 16 = .ok (.getfield 34, 3) := by decide +kernel
theorem d_MT_append_19 : decode b_MT_append 19 = .ok (.iload_n 1, 1) := by decide +kernel
theorem d_MT_append_20 : decode b_MT_append 20 = .ok (.iastore, 1) := by decide +kernel
theorem d_MT_append_21 : decode b_MT_append 21 = .ok (.aload_n 0, 1) := by decide +kernel
theorem d_MT_append_22 : decode b_MT_append 22 = .ok (.dup, 1) := by decide +kernel
theorem d_MT_append_23 : decode b_MT_append 23 = .ok (.getfield 34, 3) := by decide +kernel
theorem d_MT_append_26 : decode b_MT_append 26 = .ok (.iconst 1, 1) := by decide +kernel
theorem d_MT_append_27 : decode b_MT_append 27 = .ok (.iadd, 1) := by decide +kernel
theorem d_MT_append_28 : decode b_MT_append 28 = .ok (.putfield 34, 3) := by decide +kernel
theorem d_MT_append_31 : decode b_MT_append 31 = .ok (.aload_n 0, 1) := by decide +kernel
theorem d_MT_append_32 : decode b_MT_append 32 = .ok (.iconst 0, 1) := by decide +kernel
theorem d_MT_append_33 : decode b_MT_append 33 = .ok (.putfield 30, 3) := by decide +kernel
theorem d_MT_append_36 : decode b_MT_append 36 = .ok (.iconst 1, 1) := by decide +kernel
theorem d_MT_append_37 : decode b_MT_append 37 = .ok (.ireturn, 1) := by decide +kernel
theorem d_MT_empty_0 : decode b_MT_empty 0 = .ok (.aload_n 0, 1) := by decide +kernel
theorem d_MT_empty_1 : decode b_MT_empty 1 = .ok (.iconst 0, 1) := by decide +kernel
theorem d_MT_empty_2 : decode b_MT_empty 2 = .ok (.putfield 34, 3) := by decide +kernel
theorem d_MT_empty_5 : decode b_MT_empty 5 = .ok (.aload_n 0, 1) := by decide +kernel
theorem d_MT_empty_6 : decode b_MT_empty 6 = .ok (.invokevirtual 38, 3) := by decide +kernel
theorem d_MT_empty_9 : decode b_MT_empty 9 = .ok (.aload_n 0, 1) := by decide +kernel
theorem d_MT_empty_10 : decode b_MT_empty 10 = .ok (.iconst 1, 1) := by decide +kernel
theorem d_MT_empty_11 : decode b_MT_empty 11 = .ok (.putfield 30, 3) := by decide +kernel
theorem d_MT_empty_14 : decode b_MT_empty 14 = .ok (.return_, 1) := by decide +kernel
theorem d_MT_forget_0 : decode b_MT_forget 0 = .ok (.aload_n 0, 1) := by decide +kernel
theorem d_MT_forget_1 : decode b_MT_forget 1 = .ok (.iconst 0, 1) := by decide +kernel
theorem d_MT_forget_2 : decode b_MT_forget 2 = .ok (.putfield 41, 3) := by decide +kernel
theorem d_MT_forget_5 : decode b_MT_forget 5 = .ok (.aload_n 0, 1) := by decide +kernel
theorem d_MT_forget_6 : decode b_MT_forget 6 = .ok (.iconst 0, 1) := by decide +kernel
theorem d_MT_forget_7 : decode b_MT_forget 7 = .ok (.putfield 44, 3) := by decide +kernel
theorem d_MT_forget_10 : decode b_MT_forget 10 = .ok (.return_, 1) := by decide +kernel
theorem d_MT_mark_0 : decode b_MT_mark 0 = .ok (.aload_n 0, 1) := by decide +kernel
theorem d_MT_mark_1 : decode b_MT_mark 1 = .ok (.iload_n 1, 1) := by decide +kernel
theorem d_MT_mark_2 : decode b_MT_mark 2 = .ok (.putfield 30, 3) := by decide +kernel
theorem d_MT_mark_5 : decode b_MT_mark 5 = .ok (.return_, 1) := by decide +kernel
theorem d_MT_addProcedure_0 : decode b_MT_addProcedure 0 = .ok (.iload_n 1, 1) := by decide +kernel
theorem d_MT_addProcedure_1 : decode b_MT_addProcedure 1 = .ok (.invokestatic 47, 3) := by decide +kernel
theorem d_MT_addProcedure_4 : decode b_MT_addProcedure 4 = .ok (.ifCond .ne 4, 3) := by decide +kernel
theorem d_MT_addProcedure_7 : decode b_MT_addProcedure 7 = .ok (.return_, 1) := by decide +kernel
theorem d_MT_addProcedure_8 : decode b_MT_addProcedure 8 = .ok (.aload_n 0, 1) := by decide +kernel
theorem d_MT_addProcedure_9 : decode b_MT_addProcedure 9 = .ok (.aload_n 0, 1) := by decide +kernel
theorem d_MT_addProcedure_10 : decode b_MT_addProcedure 10 = .ok (.getfield 44, 3) := by decide +kernel
theorem d_MT_addProcedure_13 : decode b_MT_addProcedure 13 = .ok (.ifCond .ne 14, 3) := by decide +kernel
theorem d_MT_addProcedure_16 : decode b_MT_addProcedure 16 = .ok (.aload_n 0, 1) := by decide +kernel
theorem d_MT_addProcedure_17 : decode b_MT_addProcedure 17 = .ok (.getfield 41, 3) := by decide +kernel
theorem d_MT_addProcedure_20 : decode b_MT_addProcedure 20 = .ok (.iload_n 1, 1) := by decide +kernel
theorem d_MT_addProcedure_21 : decode b_MT_addProcedure 21 = .ok (.invokestatic 51, 3) := by decide +kernel
theorem d_MT_addProcedure_24 : decode b_MT_addProcedure 24 = .ok (.ifCond .eq 7, 3) := by decide +kernel
theorem d_MT_addProcedure_27 : decode b_MT_addProcedure 27 = .ok (.iconst 1, 1) := by decide +kernel
theorem d_MT_addProcedure_28 : decode b_MT_addProcedure 28 = .ok (.goto 4, 3) := by decide +kernel
theorem d_MT_addProcedure_31 : decode b_MT_addProcedure 31 = .ok (.iconst 0, 1) := by decide +kernel
theorem d_MT_addProcedure_32 : decode b_MT_addProcedure 32 = .ok (.putfield 44, 3) := by decide +kernel
theorem d_MT_addProcedure_35 : decode b_MT_addProcedure 35 = .ok (.aload_n 0, 1) := by decide +kernel
theorem d_MT_addProcedure_36 : decode b_MT_addProcedure 36 = .ok (.dup, 1) := by decide +kernel
theorem d_MT_addProcedure_37 : decode b_MT_addProcedure 37 = .ok (.getfield 41, 3) := by decide +kernel
theorem d_MT_addProcedure_40 : decode b_MT_addProcedure 40 = .ok (.iconst 1, 1) := by decide +kernel
theorem d_MT_addProcedure_41 : decode b_MT_addProcedure 41 = .ok (.iload_n 1, 1) := by decide +kernel
theorem d_MT_addProcedure_42 : decode b_MT_addProcedure 42 = .ok (.ishl, 1) := by decide +kernel
theorem d_MT_addProcedure_43 : decode b_MT_addProcedure 43 = .ok (.ior, 1) := by decide +kernel
theorem d_MT_addProcedure_44 : decode b_MT_addProcedure 44 = .ok (.putfield 41, 3) := by decide +kernel
theorem d_MT_addProcedure_47 : decode b_MT_addProcedure 47 = .ok (.aload_n 0, 1) := by decide +kernel
theorem d_MT_addProcedure_48 : decode b_MT_addProcedure 48 = .ok (.getfield 24, 3) := by decide +kernel
theorem d_MT_addProcedure_51 : decode b_MT_addProcedure 51 = .ok (.iload_n 1, 1) := by decide +kernel
theorem d_MT_addProcedure_52 : decode b_MT_addProcedure 52 = .ok (.iload_n 2, 1) := by decide +kernel
theorem d_MT_addProcedure_53 : decode b_MT_addProcedure 53 = .ok (.iastore, 1) := by decide +kernel
theorem d_MT_addProcedure_54 : decode b_MT_addProcedure 54 = .ok (.aload_n 0, 1) := by decide +kernel
theorem d_MT_addProcedure_55 : decode b_MT_addProcedure 55 = .ok (.getfield 27, 3) := by decide +kernel
theorem d_MT_addProcedure_58 : decode b_MT_addProcedure 58 = .ok (.iload_n 1, 1) := by decide +kernel
theorem d_MT_addProcedure_59 : decode b_MT_addProcedure 59 = .ok (.iconst 0, 1) := by decide +kernel
theorem d_MT_addProcedure_60 : decode b_MT_addProcedure 60 = .ok (.iastore, 1) := by decide +kernel
theorem d_MT_addProcedure_61 : decode b_MT_addProcedure 61 = .ok (.return_, 1) := by decide +kernel
theorem d_MT_addCall_0 : decode b_MT_addCall 0 = .ok (.iload_n 1, 1) := by decide +kernel
theorem d_MT_addCall_1 : decode b_MT_addCall 1 = .ok (.invokestatic 47, 3) := by decide +kernel
theorem d_MT_addCall_4 : decode b_MT_addCall 4 = .ok (.ifCond .eq 22, 3) := by decide +kernel
theorem d_MT_addCall_7 : decode b_MT_addCall 7 = .ok (.iload_n 2, 1) := by decide +kernel
theorem d_MT_addCall_8 : decode b_MT_addCall 8 = .ok (.invokestatic 47, 3) := by decide +kernel
theorem d_MT_addCall_11 : decode b_MT_addCall 11 = .ok (.ifCond .eq 15, 3) := by decide +kernel
theorem d_MT_addCall_14 : decode b_MT_addCall 14 = .ok (.aload_n 0, 1) := by decide +kernel
theorem d_MT_addCall_15 : decode b_MT_addCall 15 = .ok (.getfield 27, 3) := by decide +kernel
theorem d_MT_addCall_18 : decode b_MT_addCall 18 = .ok (.iload_n 1, 1) := by decide +kernel
theorem d_MT_addCall_19 : decode b_MT_addCall 19 = .ok (.dup2, 1) := by decide +kernel
theorem d_MT_addCall_20 : decode b_MT_addCall 20 = .ok (.iaload, 1) := by decide +kernel
theorem d_MT_addCall_21 : decode b_MT_addCall 21 = .ok (.iconst 1, 1) := by decide +kernel
theorem d_MT_addCall_22 : decode b_MT_addCall 22 = .ok (.iload_n 2, 1) := by decide +kernel
theorem d_MT_addCall_23 : decode b_MT_addCall 23 = .ok (.ishl, 1) := by decide +kernel
theorem d_MT_addCall_24 : decode b_MT_addCall 24 = .ok (.ior, 1) := by decide +kernel
theorem d_MT_addCall_25 : decode b_MT_addCall 25 = .ok (.iastore, 1) := by decide +kernel
theorem d_MT_addCall_26 : decode b_MT_addCall 26 = .ok (.return_, 1) := by decide +kernel
theorem d_MT_addStatement_0 : decode b_MT_addStatement 0 = .ok (.aload_n 0, 1) := by decide +kernel
theorem d_MT_addStatement_1 : decode b_MT_addStatement 1 = .ok (.iload_n 1, 1) := by decide +kernel
theorem d_MT_addStatement_2 : decode b_MT_addStatement 2 = .ok (.invokevirtual 55, 3) := by decide +kernel
theorem d_MT_addStatement_5 : decode b_MT_addStatement 5 = .ok (.ifCond .eq 10, 3) := by decide +kernel
theorem d_MT_addStatement_8 : decode b_MT_addStatement 8 = .ok (.aload_n 0, 1) := by decide +kernel
theorem d_MT_addStatement_9 : decode b_MT_addStatement 9 = .ok (.getfield 15, 3) := by decide +kernel
theorem d_MT_addStatement_12 : decode b_MT_addStatement 12 = .ok (.iload_n 1, 1) := by decide +kernel
theorem d_MT_addStatement_13 : decode b_MT_addStatement 13 = .ok (.iload_n 2, 1) := by decide +kernel
theorem d_MT_addStatement_14 : decode b_MT_addStatement 14 = .ok (.iastore, 1) := by decide +kernel
theorem d_MT_addStatement_15 : decode b_MT_addStatement 15 = .ok (.return_, 1) := by decide +kernel
theorem d_MT_addBlock_0 : decode b_MT_addBlock 0 = .ok (.aload_n 0, 1) := by decide +kernel
theorem d_MT_addBlock_1 : decode b_MT_addBlock 1 = .ok (.iload_n 1, 1) := by decide +kernel
theorem d_MT_addBlock_2 : decode b_MT_addBlock 2 = .ok (.invokevirtual 55, 3) := by decide +kernel
theorem d_MT_addBlock_5 : decode b_MT_addBlock 5 = .ok (.ifCond .eq 25, 3) := by decide +kernel
theorem d_MT_addBlock_8 : decode b_MT_addBlock 8 = .ok (.aload_n 0, 1) := by decide +kernel
theorem d_MT_addBlock_9 : decode b_MT_addBlock 9 = .ok (.iload_n 2, 1) := by decide +kernel
theorem d_MT_addBlock_10 : decode b_MT_addBlock 10 = .ok (.invokevirtual 55, 3) := by decide +kernel
theorem d_MT_addBlock_13 : decode b_MT_addBlock 13 = .ok (.ifCond .eq 17, 3) := by decide +kernel
theorem d_MT_addBlock_16 : decode b_MT_addBlock 16 = .ok (.aload_n 0, 1) := by decide +kernel
theorem d_MT_addBlock_17 : decode b_MT_addBlock 17 = .ok (.getfield 18, 3) := by decide +kernel
theorem d_MT_addBlock_20 : decode b_MT_addBlock 20 = .ok (.iload_n 2, 1) := by decide +kernel
theorem d_MT_addBlock_21 : decode b_MT_addBlock 21 = .ok (.iload_n 1, 1) := by decide +kernel
theorem d_MT_addBlock_22 : decode b_MT_addBlock 22 = .ok (.iastore, 1) := by decide +kernel
theorem d_MT_addBlock_23 : decode b_MT_addBlock 23 = .ok (.aload_n 0, 1) := by decide +kernel
theorem d_MT_addBlock_24 : decode b_MT_addBlock 24 = .ok (.getfield 21, 3) := by decide +kernel
theorem d_MT_addBlock_27 : decode b_MT_addBlock 27 = .ok (.iload_n 1, 1) := by decide +kernel
theorem d_MT_addBlock_28 : decode b_MT_addBlock 28 = .ok (.iload_n 2, 1) := by decide +kernel
theorem d_MT_addBlock_29 : decode b_MT_addBlock 29 = .ok (.iastore, 1) := by decide +kernel
theorem d_MT_addBlock_30 : decode b_MT_addBlock 30 = .ok (.return_, 1) := by decide +kernel
theorem d_MT_length_0 : decode b_MT_length 0 = .ok (.aload_n 0, 1) := by decide +kernel
theorem d_MT_length_1 : decode b_MT_length 1 = .ok (.getfield 34, 3) := by decide +kernel
theorem d_MT_length_4 : decode b_MT_length 4 = .ok (.ireturn, 1) := by decide +kernel
theorem d_MT_defined_0 : decode b_MT_defined 0 = .ok (.aload_n 0, 1) := by decide +kernel
theorem d_MT_defined_1 : decode b_MT_defined 1 = .ok (.getfield 41, 3) := by decide +kernel
theorem d_MT_defined_4 : decode b_MT_defined 4 = .ok (.ireturn, 1) := by decide +kernel
theorem d_MT_hasTwins_0 : decode b_MT_hasTwins 0 = .ok (.aload_n 0, 1) := by decide +kernel
theorem d_MT_hasTwins_1 : decode b_MT_hasTwins 1 = .ok (.getfield 44, 3) := by decide +kernel
theorem d_MT_hasTwins_4 : decode b_MT_hasTwins 4 = .ok (.ireturn, 1) := by decide +kernel
theorem d_MT_isCompiled_0 : decode b_MT_isCompiled 0 = .ok (.aload_n 0, 1) := by decide +kernel
theorem d_MT_isCompiled_1 : decode b_MT_isCompiled 1 = .ok (.getfield 30, 3) := by decide +kernel
theorem d_MT_isCompiled_4 : decode b_MT_isCompiled 4 = .ok (.ireturn, 1) := by decide +kernel
theorem d_MT_signAt_0 : decode b_MT_signAt 0 = .ok (.iload_n 1, 1) := by decide +kernel
theorem d_MT_signAt_1 : decode b_MT_signAt 1 = .ok (.ifCond .lt 20, 3) := by decide +kernel
theorem d_MT_signAt_4 : decode b_MT_signAt 4 = .ok (.iload_n 1, 1) := by decide +kernel
theorem d_MT_signAt_5 : decode b_MT_signAt 5 = .ok (.aload_n 0, 1) := by decide +kernel
theorem d_MT_signAt_6 : decode b_MT_signAt 6 = .ok (.getfield 34, 3) := by decide +kernel
theorem d_MT_signAt_9 : decode b_MT_signAt 9 = .ok (.if_icmp .ge 12, 3) := by decide +kernel
theorem d_MT_signAt_12 : decode b_MT_signAt 12 = .ok (.aload_n 0, 1) := by decide +kernel
theorem d_MT_signAt_13 : decode b_MT_signAt 13 = .ok (.getfield 9, 3) := by decide +kernel
theorem d_MT_signAt_16 : decode b_MT_signAt 16 = .ok (.iload_n 1, 1) := by decide +kernel
theorem d_MT_signAt_17 : decode b_MT_signAt 17 = .ok (.iaload, 1) := by decide +kernel
theorem d_MT_signAt_18 : decode b_MT_signAt 18 = .ok (.goto 4, 3) := by decide +kernel
theorem d_MT_signAt_21 : decode b_MT_signAt 21 = .ok (.iconst 0, 1) := by decide +kernel
theorem d_MT_signAt_22 : decode b_MT_signAt 22 = .ok (.ireturn, 1) := by decide +kernel
theorem d_MT_numberAt_0 : decode b_MT_numberAt 0 = .ok (.aload_n 0, 1) := by decide +kernel
theorem d_MT_numberAt_1 : decode b_MT_numberAt 1 = .ok (.iload_n 1, 1) := by decide +kernel
theorem d_MT_numberAt_2 : decode b_MT_numberAt 2 = .ok (.invokevirtual 55, 3) := by decide +kernel
theorem d_MT_numberAt_5 : decode b_MT_numberAt 5 = .ok (.ifCond .eq 12, 3) := by decide +kernel
theorem d_MT_numberAt_8 : decode b_MT_numberAt 8 = .ok (.aload_n 0, 1) := by decide +kernel
theorem d_MT_numberAt_9 : decode b_MT_numberAt 9 = .ok (.getfield 15, 3) := by decide +kernel
theorem d_MT_numberAt_12 : decode b_MT_numberAt 12 = .ok (.iload_n 1, 1) := by decide +kernel
theorem d_MT_numberAt_13 : decode b_MT_numberAt 13 = .ok (.iaload, 1) := by decide +kernel
theorem d_MT_numberAt_14 : decode b_MT_numberAt 14 = .ok (.goto 4, 3) := by decide +kernel
theorem d_MT_numberAt_17 : decode b_MT_numberAt 17 = .ok (.iconst 0, 1) := by decide +kernel
theorem d_MT_numberAt_18 : decode b_MT_numberAt 18 = .ok (.ireturn, 1) := by decide +kernel
theorem d_MT_callsOf_0 : decode b_MT_callsOf 0 = .ok (.iload_n 1, 1) := by decide +kernel
theorem d_MT_callsOf_1 : decode b_MT_callsOf 1 = .ok (.invokestatic 47, 3) := by decide +kernel
theorem d_MT_callsOf_4 : decode b_MT_callsOf 4 = .ok (.ifCond .eq 12, 3) := by decide +kernel
theorem d_MT_callsOf_7 : decode b_MT_callsOf 7 = .ok (.aload_n 0, 1) := by decide +kernel
theorem d_MT_callsOf_8 : decode b_MT_callsOf 8 = .ok (.getfield 27, 3) := by decide +kernel
theorem d_MT_callsOf_11 : decode b_MT_callsOf 11 = .ok (.iload_n 1, 1) := by decide +kernel
theorem d_MT_callsOf_12 : decode b_MT_callsOf 12 = .ok (.iaload, 1) := by decide +kernel
theorem d_MT_callsOf_13 : decode b_MT_callsOf 13 = .ok (.goto 4, 3) := by decide +kernel
theorem d_MT_callsOf_16 : decode b_MT_callsOf 16 = .ok (.iconst 0, 1) := by decide +kernel
theorem d_MT_callsOf_17 : decode b_MT_callsOf 17 = .ok (.ireturn, 1) := by decide +kernel
theorem d_MT_firstPlaceOf_0 : decode b_MT_firstPlaceOf 0 = .ok (.iload_n 1, 1) := by decide +kernel
theorem d_MT_firstPlaceOf_1 : decode b_MT_firstPlaceOf 1 = .ok (.invokestatic 47, 3) := by decide +kernel
theorem d_MT_firstPlaceOf_4 : decode b_MT_firstPlaceOf 4 = .ok (.ifCond .eq 14, 3) := by decide +kernel
theorem d_MT_firstPlaceOf_7 : decode b_MT_firstPlaceOf 7 = .ok (.aload_n 0, 1) := by decide +kernel
theorem d_MT_firstPlaceOf_8 : decode b_MT_firstPlaceOf 8 = .ok (.getfield 24, 3) := by decide +kernel
theorem d_MT_firstPlaceOf_11 : decode b_MT_firstPlaceOf 11 = .ok (.iload_n 1, 1) := by decide +kernel
theorem d_MT_firstPlaceOf_12 : decode b_MT_firstPlaceOf 12 = .ok (.iaload, 1) := by decide +kernel
theorem d_MT_firstPlaceOf_13 : decode b_MT_firstPlaceOf 13 = .ok (.iconst 2, 1) := by decide +kernel
theorem d_MT_firstPlaceOf_14 : decode b_MT_firstPlaceOf 14 = .ok (.iadd, 1) := by decide +kernel
theorem d_MT_firstPlaceOf_15 : decode b_MT_firstPlaceOf 15 = .ok (.goto 4, 3) := by decide +kernel
theorem d_MT_firstPlaceOf_18 : decode b_MT_firstPlaceOf 18 = .ok (.iconst 0, 1) := by decide +kernel
theorem d_MT_firstPlaceOf_19 : decode b_MT_firstPlaceOf 19 = .ok (.ireturn, 1) := by decide +kernel
theorem d_MT_endsProcedure_0 : decode b_MT_endsProcedure 0 = .ok (.aload_n 0, 1) := by decide +kernel
theorem d_MT_endsProcedure_1 : decode b_MT_endsProcedure 1 = .ok (.iload_n 1, 1) := by decide +kernel
theorem d_MT_endsProcedure_2 : decode b_MT_endsProcedure 2 = .ok (.invokevirtual 55, 3) := by decide +kernel
theorem d_MT_endsProcedure_5 : decode b_MT_endsProcedure 5 = .ok (.ifCond .eq 23, 3) := by decide +kernel
theorem d_MT_endsProcedure_8 : decode b_MT_endsProcedure 8 = .ok (.aload_n 0, 1) := by decide +kernel
theorem d_MT_endsProcedure_9 : decode b_MT_endsProcedure 9 = .ok (.aload_n 0, 1) := by decide +kernel
theorem d_MT_endsProcedure_10 : decode b_MT_endsProcedure 10 = .ok (.getfield 18, 3) := by decide +kernel
theorem d_MT_endsProcedure_13 : decode b_MT_endsProcedure 13 = .ok (.iload_n 1, 1) := by decide +kernel
theorem d_MT_endsProcedure_14 : decode b_MT_endsProcedure 14 = .ok (.iaload, 1) := by decide +kernel
theorem d_MT_endsProcedure_15 : decode b_MT_endsProcedure 15 = .ok (.invokevirtual 58, 3) := by decide +kernel
theorem d_MT_endsProcedure_18 : decode b_MT_endsProcedure 18 = .ok (.invokestatic 62, 3) := by decide +kernel
theorem d_MT_endsProcedure_21 : decode b_MT_endsProcedure 21 = .ok (.ifCond .eq 7, 3) := by decide +kernel
theorem d_MT_endsProcedure_24 : decode b_MT_endsProcedure 24 = .ok (.iconst 1, 1) := by decide +kernel
theorem d_MT_endsProcedure_25 : decode b_MT_endsProcedure 25 = .ok (.goto 4, 3) := by decide +kernel
theorem d_MT_endsProcedure_28 : decode b_MT_endsProcedure 28 = .ok (.iconst 0, 1) := by decide +kernel
theorem d_MT_endsProcedure_29 : decode b_MT_endsProcedure 29 = .ok (.ireturn, 1) := by decide +kernel
theorem d_MT_behindBlock_0 : decode b_MT_behindBlock 0 = .ok (.aload_n 0, 1) := by decide +kernel
theorem d_MT_behindBlock_1 : decode b_MT_behindBlock 1 = .ok (.iload_n 1, 1) := by decide +kernel
theorem d_MT_behindBlock_2 : decode b_MT_behindBlock 2 = .ok (.invokevirtual 55, 3) := by decide +kernel
theorem d_MT_behindBlock_5 : decode b_MT_behindBlock 5 = .ok (.ifCond .ne 5, 3) := by decide +kernel
theorem d_MT_behindBlock_8 : decode b_MT_behindBlock 8 = .ok (.iload_n 1, 1) := by decide +kernel
theorem d_MT_behindBlock_9 : decode b_MT_behindBlock 9 = .ok (.ireturn, 1) := by decide +kernel
theorem d_MT_behindBlock_10 : decode b_MT_behindBlock 10 = .ok (.aload_n 0, 1) := by decide +kernel
theorem d_MT_behindBlock_11 : decode b_MT_behindBlock 11 = .ok (.aload_n 0, 1) := by decide +kernel
theorem d_MT_behindBlock_12 : decode b_MT_behindBlock 12 = .ok (.getfield 18, 3) := by decide +kernel
theorem d_MT_behindBlock_15 : decode b_MT_behindBlock 15 = .ok (.iload_n 1, 1) := by decide +kernel
theorem d_MT_behindBlock_16 : decode b_MT_behindBlock 16 = .ok (.iaload, 1) := by decide +kernel
theorem d_MT_behindBlock_17 : decode b_MT_behindBlock 17 = .ok (.invokevirtual 58, 3) := by decide +kernel
theorem d_MT_behindBlock_20 : decode b_MT_behindBlock 20 = .ok (.bipush 64, 2) := by decide +kernel
theorem d_MT_behindBlock_22 : decode b_MT_behindBlock 22 = .ok (.if_icmp .ne 10, 3) := by decide +kernel
theorem d_MT_behindBlock_25 : decode b_MT_behindBlock 25 = .ok (.aload_n 0, 1) := by decide +kernel
theorem d_MT_behindBlock_26 : decode b_MT_behindBlock 26 = .ok (.getfield 18, 3) := by decide +kernel
theorem d_MT_behindBlock_29 : decode b_MT_behindBlock 29 = .ok (.iload_n 1, 1) := by decide +kernel
theorem d_MT_behindBlock_30 : decode b_MT_behindBlock 30 = .ok (.iaload, 1) := by decide +kernel
theorem d_MT_behindBlock_31 : decode b_MT_behindBlock 31 = .ok (.ireturn, 1) := by decide +kernel
theorem d_MT_behindBlock_32 : decode b_MT_behindBlock 32 = .ok (.iload_n 1, 1) := by decide +kernel
theorem d_MT_behindBlock_33 : decode b_MT_behindBlock 33 = .ok (.iconst 1, 1) := by decide +kernel
theorem d_MT_behindBlock_34 : decode b_MT_behindBlock 34 = .ok (.iadd, 1) := by decide +kernel
theorem d_MT_behindBlock_35 : decode b_MT_behindBlock 35 = .ok (.istore_n 2, 1) := by decide +kernel
theorem d_MT_behindBlock_36 : decode b_MT_behindBlock 36 = .ok (.aload_n 0, 1) := by decide +kernel
theorem d_MT_behindBlock_37 : decode b_MT_behindBlock 37 = .ok (.iload_n 2, 1) := by decide +kernel
theorem d_MT_behindBlock_38 : decode b_MT_behindBlock 38 = .ok (.invokevirtual 58, 3) := by decide +kernel
theorem d_MT_behindBlock_41 : decode b_MT_behindBlock 41 = .ok (.bipush 58, 2) := by decide +kernel
theorem d_MT_behindBlock_43 : decode b_MT_behindBlock 43 = .ok (.if_icmp .ne 11, 3) := by decide +kernel
theorem d_MT_behindBlock_46 : decode b_MT_behindBlock 46 = .ok (.aload_n 0, 1) := by decide +kernel
theorem d_MT_behindBlock_47 : decode b_MT_behindBlock 47 = .ok (.iload_n 2, 1) := by decide +kernel
theorem d_MT_behindBlock_48 : decode b_MT_behindBlock 48 = .ok (.invokevirtual 65, 3) := by decide +kernel
theorem d_MT_behindBlock_51 : decode b_MT_behindBlock 51 = .ok (.goto 4, 3) := by decide +kernel
theorem d_MT_behindBlock_54 : decode b_MT_behindBlock 54 = .ok (.iload_n 2, 1) := by decide +kernel
theorem d_MT_behindBlock_55 : decode b_MT_behindBlock 55 = .ok (.ireturn, 1) := by decide +kernel
theorem d_MT_placeIfZero_0 : decode b_MT_placeIfZero 0 = .ok (.aload_n 0, 1) := by decide +kernel
theorem d_MT_placeIfZero_1 : decode b_MT_placeIfZero 1 = .ok (.iload_n 1, 1) := by decide +kernel
theorem d_MT_placeIfZero_2 : decode b_MT_placeIfZero 2 = .ok (.invokevirtual 65, 3) := by decide +kernel
theorem d_MT_placeIfZero_5 : decode b_MT_placeIfZero 5 = .ok (.istore_n 2, 1) := by decide +kernel
theorem d_MT_placeIfZero_6 : decode b_MT_placeIfZero 6 = .ok (.aload_n 0, 1) := by decide +kernel
theorem d_MT_placeIfZero_7 : decode b_MT_placeIfZero 7 = .ok (.iload_n 2, 1) := by decide +kernel
theorem d_MT_placeIfZero_8 : decode b_MT_placeIfZero 8 = .ok (.invokevirtual 58, 3) := by decide +kernel
theorem d_MT_placeIfZero_11 : decode b_MT_placeIfZero 11 = .ok (.bipush 58, 2) := by decide +kernel
theorem d_MT_placeIfZero_13 : decode b_MT_placeIfZero 13 = .ok (.if_icmp .ne 9, 3) := by decide +kernel
theorem d_MT_placeIfZero_16 : decode b_MT_placeIfZero 16 = .ok (.iload_n 2, 1) := by decide +kernel
theorem d_MT_placeIfZero_17 : decode b_MT_placeIfZero 17 = .ok (.iconst 2, 1) := by decide +kernel
theorem d_MT_placeIfZero_18 : decode b_MT_placeIfZero 18 = .ok (.iadd, 1) := by decide +kernel
theorem d_MT_placeIfZero_19 : decode b_MT_placeIfZero 19 = .ok (.goto 4, 3) := by decide +kernel
theorem d_MT_placeIfZero_22 : decode b_MT_placeIfZero 22 = .ok (.iload_n 2, 1) := by decide +kernel
theorem d_MT_placeIfZero_23 : decode b_MT_placeIfZero 23 = .ok (.ireturn, 1) := by decide +kernel
theorem d_MT_behindEndOf_0 : decode b_MT_behindEndOf 0 = .ok (.aload_n 0, 1) := by decide +kernel
theorem d_MT_behindEndOf_1 : decode b_MT_behindEndOf 1 = .ok (.iload_n 1, 1) := by decide +kernel
theorem d_MT_behindEndOf_2 : decode b_MT_behindEndOf 2 = .ok (.invokevirtual 55, 3) := by decide +kernel
theorem d_MT_behindEndOf_5 : decode b_MT_behindEndOf 5 = .ok (.ifCond .eq 14, 3) := by decide +kernel
theorem d_MT_behindEndOf_8 : decode b_MT_behindEndOf 8 = .ok (.aload_n 0, 1) := by decide +kernel
theorem d_MT_behindEndOf_9 : decode b_MT_behindEndOf 9 = .ok (.getfield 21, 3) := by decide +kernel
theorem d_MT_behindEndOf_12 : decode b_MT_behindEndOf 12 = .ok (.iload_n 1, 1) := by decide +kernel
theorem d_MT_behindEndOf_13 : decode b_MT_behindEndOf 13 = .ok (.iaload, 1) := by decide +kernel
theorem d_MT_behindEndOf_14 : decode b_MT_behindEndOf 14 = .ok (.iconst 1, 1) := by decide +kernel
theorem d_MT_behindEndOf_15 : decode b_MT_behindEndOf 15 = .ok (.iadd, 1) := by decide +kernel
theorem d_MT_behindEndOf_16 : decode b_MT_behindEndOf 16 = .ok (.goto 4, 3) := by decide +kernel
theorem d_MT_behindEndOf_19 : decode b_MT_behindEndOf 19 = .ok (.iload_n 1, 1) := by decide +kernel
theorem d_MT_behindEndOf_20 : decode b_MT_behindEndOf 20 = .ok (.ireturn, 1) := by decide +kernel
theorem d_MT_isPlace_0 : decode b_MT_isPlace 0 = .ok (.iload_n 1, 1) := by decide +kernel
theorem d_MT_isPlace_1 : decode b_MT_isPlace 1 = .ok (.ifCond .lt 15, 3) := by decide +kernel
theorem d_MT_isPlace_4 : decode b_MT_isPlace 4 = .ok (.iload_n 1, 1) := by decide +kernel
theorem d_MT_isPlace_5 : decode b_MT_isPlace 5 = .ok (.aload_n 0, 1) := by decide +kernel
theorem d_MT_isPlace_6 : decode b_MT_isPlace 6 = .ok (.getfield 34, 3) := by decide +kernel
theorem d_MT_isPlace_9 : decode b_MT_isPlace 9 = .ok (.if_icmp .ge 7, 3) := by decide +kernel
theorem d_MT_isPlace_12 : decode b_MT_isPlace 12 = .ok (.iconst 1, 1) := by decide +kernel
theorem d_MT_isPlace_13 : decode b_MT_isPlace 13 = .ok (.goto 4, 3) := by decide +kernel
theorem d_MT_isPlace_16 : decode b_MT_isPlace 16 = .ok (.iconst 0, 1) := by decide +kernel
theorem d_MT_isPlace_17 : decode b_MT_isPlace 17 = .ok (.ireturn, 1) := by decide +kernel
theorem d_PR_init_0 : decode b_PR_init 0 = .ok (.aload_n 0, 1) := by decide +kernel
theorem d_PR_init_1 : decode b_PR_init 1 = .ok (.invokespecial 3, 3) := by decide +kernel
theorem d_PR_init_4 : decode b_PR_init 4 = .ok (.aload_n 0, 1) := by decide +kernel
theorem d_PR_init_5 : decode b_PR_init 5 = .ok (.bipush 26, 2) := by decide +kernel
theorem d_PR_init_7 : decode b_PR_init 7 = .ok (.anewarray 9, 3) := by decide +kernel
theorem d_PR_init_10 : decode b_PR_init 10 = .ok (.putfield 11, 3) := by decide +kernel
theorem d_PR_init_13 : decode b_PR_init 13 = .ok (.aload_n 0, 1) := by decide +kernel
theorem d_PR_init_14 : decode b_PR_init 14 = .ok (.bipush 26, 2) := by decide +kernel
theorem d_PR_init_16 : decode b_PR_init 16 = .ok (.newarray .int, 2) := by decide +kernel
theorem d_PR_init_18 : decode b_PR_init 18 = .ok (.putfield 17, 3) := by decide +kernel
theorem d_PR_init_21 : decode b_PR_init 21 = .ok (.return_, 1) := by decide +kernel
theorem d_PR_join_0 : decode b_PR_join 0 = .ok (.aload_n 0, 1) := by decide +kernel
theorem d_PR_join_1 : decode b_PR_join 1 = .ok (.invokevirtual 21, 3) := by decide +kernel
theorem d_PR_join_4 : decode b_PR_join 4 = .ok (.iconst 0, 1) := by decide +kernel
theorem d_PR_join_5 : decode b_PR_join 5 = .ok (.istore_n 2, 1) := by decide +kernel
theorem d_PR_join_6 : decode b_PR_join 6 = .ok (.iload_n 2, 1) := by decide +kernel
theorem d_PR_join_7 : decode b_PR_join 7 = .ok (.aload_n 1, 1) := by decide +kernel
theorem d_PR_join_8 : decode b_PR_join 8 = .ok (.arraylength, 1) := by decide +kernel
theorem d_PR_join_9 : decode b_PR_join 9 = .ok (.if_icmp .ge 48, 3) := by decide +kernel
theorem d_PR_join_12 : decode b_PR_join 12 = .ok (.aload_n 0, 1) := by decide +kernel
theorem d_PR_join_13 : decode b_PR_join 13 = .ok (.getfield 24, 3) := by decide +kernel
theorem d_PR_join_16 : decode b_PR_join 16 = .ok (.aload_n 1, 1) := by decide +kernel
theorem d_PR_join_17 : decode b_PR_join 17 = .ok (.iload_n 2, 1) := by decide +kernel
theorem d_PR_join_18 : decode b_PR_join 18 = .ok (.aaload, 1) := by decide +kernel
theorem d_PR_join_19 : decode b_PR_join 19 = .ok (.invokevirtual 28, 3) := by decide +kernel
theorem d_PR_join_22 : decode b_PR_join 22 = .ok (.iand, 1) := by decide +kernel
theorem d_PR_join_23 : decode b_PR_join 23 = .ok (.ifCond .eq 6, 3) := by decide +kernel
theorem d_PR_join_26 : decode b_PR_join 26 = .ok (.bipush (-3), 2) := by decide +kernel
theorem d_PR_join_28 : decode b_PR_join 28 = .ok (.ireturn, 1) := by decide +kernel
theorem d_PR_join_29 : decode b_PR_join 29 = .ok (.aload_n 0, 1) := by decide +kernel
theorem d_PR_join_30 : decode b_PR_join 30 = .ok (.dup, 1) := by decide +kernel
theorem d_PR_join_31 : decode b_PR_join 31 = .ok (.getfield 24, 3) := by decide +kernel
theorem d_PR_join_34 : decode b_PR_join 34 = .ok (.aload_n 1, 1) := by decide +kernel
theorem d_PR_join_35 : decode b_PR_join 35 = .ok (.iload_n 2, 1) := by decide +kernel
theorem d_PR_join_36 : decode b_PR_join 36 = .ok (.aaload, 1) := by decide +kernel
theorem d_PR_join_37 : decode b_PR_join 37 = .ok (.invokevirtual 28, 3) := by decide +kernel
theorem d_PR_join_40 : decode b_PR_join 40 = .ok (.ior, 1) := by decide +kernel
theorem d_PR_join_41 : decode b_PR_join 41 = .ok (.putfield 24, 3) := by decide +kernel
theorem d_PR_join_44 : decode b_PR_join 44 = .ok (.aload_n 0, 1) := by decide +kernel
theorem d_PR_join_45 : decode b_PR_join 45 = .ok (.aload_n 1, 1) := by decide +kernel
theorem d_PR_join_46 : decode b_PR_join 46 = .ok (.iload_n 2, 1) := by decide +kernel
theorem d_PR_join_47 : decode b_PR_join 47 = .ok (.aaload, 1) := by decide +kernel
theorem d_PR_join_48 : decode b_PR_join 48 = .ok (.invokevirtual 31, 3) := by decide +kernel
theorem d_PR_join_51 : decode b_PR_join 51 = .ok (.iinc 2 1, 3) := by decide +kernel
theorem d_PR_join_54 : decode b_PR_join 54 = .ok (.goto (-48), 3) := by decide +kernel
theorem d_PR_join_57 : decode b_PR_join 57 = .ok (.aload_n 0, 1) := by decide +kernel
theorem d_PR_join_58 : decode b_PR_join 58 = .ok (.invokevirtual 35, 3) := by decide +kernel
theorem d_PR_join_61 : decode b_PR_join 61 = .ok (.ifCond .eq 6, 3) := by decide +kernel
theorem d_PR_join_64 : decode b_PR_join 64 = .ok (.bipush (-4), 2) := by decide +kernel
theorem d_PR_join_66 : decode b_PR_join 66 = .ok (.ireturn, 1) := by decide +kernel
theorem d_PR_join_67 : decode b_PR_join 67 = .ok (.aload_n 0, 1) := by decide +kernel
theorem d_PR_join_68 : decode b_PR_join 68 = .ok (.invokevirtual 39, 3) := by decide +kernel
theorem d_PR_join_71 : decode b_PR_join 71 = .ok (.aload_n 0, 1) := by decide +kernel
theorem d_PR_join_72 : decode b_PR_join 72 = .ok (.invokevirtual 42, 3) := by decide +kernel
theorem d_PR_join_75 : decode b_PR_join 75 = .ok (.ifCond .eq 8, 3) := by decide +kernel
theorem d_PR_join_78 : decode b_PR_join 78 = .ok (.bipush (-5), 2) := by decide +kernel
theorem d_PR_join_80 : decode b_PR_join 80 = .ok (.goto 10, 3) := by decide +kernel
theorem d_PR_join_83 : decode b_PR_join 83 = .ok (.aload_n 0, 1) := by decide +kernel
theorem d_PR_join_84 : decode b_PR_join 84 = .ok (.getfield 24, 3) := by decide +kernel
theorem d_PR_join_87 : decode b_PR_join 87 = .ok (.invokestatic 45, 3) := by decide +kernel
theorem d_PR_join_90 : decode b_PR_join 90 = .ok (.ireturn, 1) := by decide +kernel
theorem d_PR_homeOf_0 : decode b_PR_homeOf 0 = .ok (.iload_n 1, 1) := by decide +kernel
theorem d_PR_homeOf_1 : decode b_PR_homeOf 1 = .ok (.invokestatic 51, 3) := by decide +kernel
theorem d_PR_homeOf_4 : decode b_PR_homeOf 4 = .ok (.ifCond .eq 12, 3) := by decide +kernel
theorem d_PR_homeOf_7 : decode b_PR_homeOf 7 = .ok (.aload_n 0, 1) := by decide +kernel
theorem d_PR_homeOf_8 : decode b_PR_homeOf 8 = .ok (.getfield 11, 3) := by decide +kernel
theorem d_PR_homeOf_11 : decode b_PR_homeOf 11 = .ok (.iload_n 1, 1) := by decide +kernel
theorem d_PR_homeOf_12 : decode b_PR_homeOf 12 = .ok (.aaload, 1) := by decide +kernel
theorem d_PR_homeOf_13 : decode b_PR_homeOf 13 = .ok (.goto 4, 3) := by decide +kernel
theorem d_PR_homeOf_16 : decode b_PR_homeOf 16 = .ok (.aconst_null, 1) := by decide +kernel
theorem d_PR_homeOf_17 : decode b_PR_homeOf 17 = .ok (.areturn, 1) := by decide +kernel
theorem d_PR_forget_0 : decode b_PR_forget 0 = .ok (.aload_n 0, 1) := by decide +kernel
theorem d_PR_forget_1 : decode b_PR_forget 1 = .ok (.iconst 0, 1) := by decide +kernel
theorem d_PR_forget_2 : decode b_PR_forget 2 = .ok (.putfield 24, 3) := by decide +kernel
theorem d_PR_forget_5 : decode b_PR_forget 5 = .ok (.iconst 0, 1) := by decide +kernel
theorem d_PR_forget_6 : decode b_PR_forget 6 = .ok (.istore_n 1, 1) := by decide +kernel
theorem d_PR_forget_7 : decode b_PR_forget 7 = .ok (.iload_n 1, 1) := by decide +kernel
theorem d_PR_forget_8 : decode b_PR_forget 8 = .ok (.bipush 26, 2) := by decide +kernel
theorem d_PR_forget_10 : decode b_PR_forget 10 = .ok (.if_icmp .ge 23, 3) := by decide +kernel
theorem d_PR_forget_13 : decode b_PR_forget 13 = .ok (.aload_n 0, 1) := by decide +kernel
theorem d_PR_forget_14 : decode b_PR_forget 14 = .ok (.getfield 11, 3) := by decide +kernel
theorem d_PR_forget_17 : decode b_PR_forget 17 = .ok (.iload_n 1, 1) := by decide +kernel
theorem d_PR_forget_18 : decode b_PR_forget 18 = .ok (.aconst_null, 1) := by decide +kernel
theorem d_PR_forget_19 : decode b_PR_forget 19 = .ok (.aastore, 1) := by decide +kernel
theorem d_PR_forget_20 : decode b_PR_forget 20 = .ok (.aload_n 0, 1) := by decide +kernel
theorem d_PR_forget_21 : decode b_PR_forget 21 = .ok (.getfield 17, 3) := by decide +kernel
theorem d_PR_forget_24 : decode b_PR_forget 24 = .ok (.iload_n 1, 1) := by decide +kernel
theorem d_PR_forget_25 : decode b_PR_forget 25 = .ok (.iconst 0, 1) := by decide +kernel
theorem d_PR_forget_26 : decode b_PR_forget 26 = .ok (.iastore, 1) := by decide +kernel
theorem d_PR_forget_27 : decode b_PR_forget 27 = .ok (.iinc 1 1, 3) := by decide +kernel
theorem d_PR_forget_30 : decode b_PR_forget 30 = .ok (.goto (-23), 3) := by decide +kernel
theorem d_PR_forget_33 : decode b_PR_forget 33 = .ok (.return_, 1) := by decide +kernel
theorem d_PR_takeOver_0 : decode b_PR_takeOver 0 = .ok (.iconst 0, 1) := by decide +kernel
theorem d_PR_takeOver_1 : decode b_PR_takeOver 1 = .ok (.istore_n 2, 1) := by decide +kernel
theorem d_PR_takeOver_2 : decode b_PR_takeOver 2 = .ok (.iload_n 2, 1) := by decide +kernel
theorem d_PR_takeOver_3 : decode b_PR_takeOver 3 = .ok (.bipush 26, 2) := by decide +kernel
theorem d_PR_takeOver_5 : decode b_PR_takeOver 5 = .ok (.if_icmp .ge 38, 3) := by decide +kernel
theorem d_PR_takeOver_8 : decode b_PR_takeOver 8 = .ok (.aload_n 1, 1) := by decide +kernel
theorem d_PR_takeOver_9 : decode b_PR_takeOver 9 = .ok (.invokevirtual 28, 3) := by decide +kernel
theorem d_PR_takeOver_12 : decode b_PR_takeOver 12 = .ok (.iload_n 2, 1) := by decide +kernel
theorem d_PR_takeOver_13 : decode b_PR_takeOver 13 = .ok (.invokestatic 55, 3) := by decide +kernel
theorem d_PR_takeOver_16 : decode b_PR_takeOver 16 = .ok (.ifCond .eq 21, 3) := by decide +kernel
theorem d_PR_takeOver_19 : decode b_PR_takeOver 19 = .ok (.aload_n 0, 1) := by decide +kernel
theorem d_PR_takeOver_20 : decode b_PR_takeOver 20 = .ok (.getfield 11, 3) := by decide +kernel
theorem d_PR_takeOver_23 : decode b_PR_takeOver 23 = .ok (.iload_n 2, 1) := by decide +kernel
theorem d_PR_takeOver_24 : decode b_PR_takeOver 24 = .ok (.aload_n 1, 1) := by decide +kernel
theorem d_PR_takeOver_25 : decode b_PR_takeOver 25 = .ok (.aastore, 1) := by decide +kernel
theorem d_PR_takeOver_26 : decode b_PR_takeOver 26 = .ok (.aload_n 0, 1) := by decide +kernel
theorem d_PR_takeOver_27 : decode b_PR_takeOver 27 = .ok (.getfield 17, 3) := by decide +kernel
theorem d_PR_takeOver_30 : decode b_PR_takeOver 30 = .ok (.iload_n 2, 1) := by decide +kernel
theorem d_PR_takeOver_31 : decode b_PR_takeOver 31 = .ok (.aload_n 1, 1) := by decide +kernel
theorem d_PR_takeOver_32 : decode b_PR_takeOver 32 = .ok (.iload_n 2, 1) := by decide +kernel
theorem d_PR_takeOver_33 : decode b_PR_takeOver 33 = .ok (.invokevirtual 59, 3) := by decide +kernel
theorem d_PR_takeOver_36 : decode b_PR_takeOver 36 = .ok (.iastore, 1) := by decide +kernel
theorem d_PR_takeOver_37 : decode b_PR_takeOver 37 = .ok (.iinc 2 1, 3) := by decide +kernel
theorem d_PR_takeOver_40 : decode b_PR_takeOver 40 = .ok (.goto (-38), 3) := by decide +kernel
theorem d_PR_takeOver_43 : decode b_PR_takeOver 43 = .ok (.return_, 1) := by decide +kernel
theorem d_PR_lacksOne_0 : decode b_PR_lacksOne 0 = .ok (.sipush 4096, 3) := by decide +kernel
theorem d_PR_lacksOne_3 : decode b_PR_lacksOne 3 = .ok (.istore_n 1, 1) := by decide +kernel
theorem d_PR_lacksOne_4 : decode b_PR_lacksOne 4 = .ok (.iconst 0, 1) := by decide +kernel
theorem d_PR_lacksOne_5 : decode b_PR_lacksOne 5 = .ok (.istore_n 2, 1) := by decide +kernel
theorem d_PR_lacksOne_6 : decode b_PR_lacksOne 6 = .ok (.iload_n 2, 1) := by decide +kernel
theorem d_PR_lacksOne_7 : decode b_PR_lacksOne 7 = .ok (.bipush 26, 2) := by decide +kernel
theorem d_PR_lacksOne_9 : decode b_PR_lacksOne 9 = .ok (.if_icmp .ge 18, 3) := by decide +kernel
theorem d_PR_lacksOne_12 : decode b_PR_lacksOne 12 = .ok (.iload_n 1, 1) := by decide +kernel
theorem d_PR_lacksOne_13 : decode b_PR_lacksOne 13 = .ok (.aload_n 0, 1) := by decide +kernel
theorem d_PR_lacksOne_14 : decode b_PR_lacksOne 14 = .ok (.getfield 17, 3) := by decide +kernel
theorem d_PR_lacksOne_17 : decode b_PR_lacksOne 17 = .ok (.iload_n 2, 1) := by decide +kernel
theorem d_PR_lacksOne_18 : decode b_PR_lacksOne 18 = .ok (.iaload, 1) := by decide +kernel
theorem d_PR_lacksOne_19 : decode b_PR_lacksOne 19 = .ok (.ior, 1) := by decide +kernel
theorem d_PR_lacksOne_20 : decode b_PR_lacksOne 20 = .ok (.istore_n 1, 1) := by decide +kernel
theorem d_PR_lacksOne_21 : decode b_PR_lacksOne 21 = .ok (.iinc 2 1, 3) := by decide +kernel
theorem d_PR_lacksOne_24 : decode b_PR_lacksOne 24 = .ok (.goto (-18), 3) := by decide +kernel
theorem d_PR_lacksOne_27 : decode b_PR_lacksOne 27 = .ok (.iload_n 1, 1) := by decide +kernel
theorem d_PR_lacksOne_28 : decode b_PR_lacksOne 28 = .ok (.aload_n 0, 1) := by decide +kernel
theorem d_PR_lacksOne_29 : decode b_PR_lacksOne 29 = .ok (.getfield 24, 3) := by decide +kernel
theorem d_PR_lacksOne_32 : decode b_PR_lacksOne 32 = .ok (.iconst (-1), 1) := by decide +kernel
theorem d_PR_lacksOne_33 : decode b_PR_lacksOne 33 = .ok (.ixor, 1) := by decide +kernel
theorem d_PR_lacksOne_34 : decode b_PR_lacksOne 34 = .ok (.iand, 1) := by decide +kernel
theorem d_PR_lacksOne_35 : decode b_PR_lacksOne 35 = .ok (.ifCond .eq 7, 3) := by decide +kernel
theorem d_PR_lacksOne_38 : decode b_PR_lacksOne 38 = .ok (.iconst 1, 1) := by decide +kernel
theorem d_PR_lacksOne_39 : decode b_PR_lacksOne 39 = .ok (.goto 4, 3) := by decide +kernel
theorem d_PR_lacksOne_42 : decode b_PR_lacksOne 42 = .ok (.iconst 0, 1) := by decide +kernel
theorem d_PR_lacksOne_43 : decode b_PR_lacksOne 43 = .ok (.ireturn, 1) := by decide +kernel
theorem d_PR_followChains_0 : decode b_PR_followChains 0 = .ok (.iconst 0, 1) := by decide +kernel
theorem d_PR_followChains_1 : decode b_PR_followChains 1 = .ok (.istore_n 1, 1) := by decide +kernel
theorem d_PR_followChains_2 : decode b_PR_followChains 2 = .ok (.iload_n 1, 1) := by decide +kernel
theorem d_PR_followChains_3 : decode b_PR_followChains 3 = .ok (.bipush 26, 2) := by decide +kernel
theorem d_PR_followChains_5 : decode b_PR_followChains 5 = .ok (.if_icmp .ge 51, 3) := by decide +kernel
theorem d_PR_followChains_8 : decode b_PR_followChains 8 = .ok (.iconst 0, 1) := by decide +kernel
theorem d_PR_followChains_9 : decode b_PR_followChains 9 = .ok (.istore_n 2, 1) := by decide +kernel
theorem d_PR_followChains_10 : decode b_PR_followChains 10 = .ok (.iload_n 2, 1) := by decide +kernel
theorem d_PR_followChains_11 : decode b_PR_followChains 11 = .ok (.bipush 26, 2) := by decide +kernel
theorem d_PR_followChains_13 : decode b_PR_followChains 13 = .ok (.if_icmp .ge 37, 3) := by decide +kernel
theorem d_PR_followChains_16 : decode b_PR_followChains 16 = .ok (.aload_n 0, 1) := by decide +kernel
theorem d_PR_followChains_17 : decode b_PR_followChains 17 = .ok (.getfield 17, 3) := by decide +kernel
theorem d_PR_followChains_20 : decode b_PR_followChains 20 = .ok (.iload_n 2, 1) := by decide +kernel
theorem d_PR_followChains_21 : decode b_PR_followChains 21 = .ok (.iaload, 1) := by decide +kernel
theorem d_PR_followChains_22 : decode b_PR_followChains 22 = .ok (.iload_n 1, 1) := by decide +kernel
theorem d_PR_followChains_23 : decode b_PR_followChains 23 = .ok (.invokestatic 55, 3) := by decide +kernel
theorem d_PR_followChains_26 : decode b_PR_followChains 26 = .ok (.ifCond .eq 18, 3) := by decide +kernel
theorem d_PR_followChains_29 : decode b_PR_followChains 29 = .ok (.aload_n 0, 1) := by decide +kernel
theorem d_PR_followChains_30 : decode b_PR_followChains 30 = .ok (.getfield 17, 3) := by decide +kernel
theorem d_PR_followChains_33 : decode b_PR_followChains 33 = .ok (.iload_n 2, 1) := by decide +kernel
theorem d_PR_followChains_34 : decode b_PR_followChains 34 = .ok (.dup2, 1) := by decide +kernel
theorem d_PR_followChains_35 : decode b_PR_followChains 35 = .ok (.iaload, 1) := by decide +kernel
theorem d_PR_followChains_36 : decode b_PR_followChains 36 = .ok (.aload_n 0, 1) := by decide +kernel
theorem d_PR_followChains_37 : decode b_PR_followChains 37 = .ok (.getfield 17, 3) := by decide +kernel
theorem d_PR_followChains_40 : decode b_PR_followChains 40 = .ok (.iload_n 1, 1) := by decide +kernel
theorem d_PR_followChains_41 : decode b_PR_followChains 41 = .ok (.iaload, 1) := by decide +kernel
theorem d_PR_followChains_42 : decode b_PR_followChains 42 = .ok (.ior, 1) := by decide +kernel
theorem d_PR_followChains_43 : decode b_PR_followChains 43 = .ok (.iastore, 1) := by decide +kernel
theorem d_PR_followChains_44 : decode b_PR_followChains 44 = .ok (.iinc 2 1, 3) := by decide +kernel
theorem d_PR_followChains_47 : decode b_PR_followChains 47 = .ok (.goto (-37), 3) := by decide +kernel
theorem d_PR_followChains_50 : decode b_PR_followChains 50 = .ok (.iinc 1 1, 3) := by decide +kernel
theorem d_PR_followChains_53 : decode b_PR_followChains 53 = .ok (.goto (-51), 3) := by decide +kernel
theorem d_PR_followChains_56 : decode b_PR_followChains 56 = .ok (.return_, 1) := by decide +kernel
theorem d_PR_hasCircle_0 : decode b_PR_hasCircle 0 = .ok (.iconst 0, 1) := by decide +kernel
theorem d_PR_hasCircle_1 : decode b_PR_hasCircle 1 = .ok (.istore_n 1, 1) := by decide +kernel
theorem d_PR_hasCircle_2 : decode b_PR_hasCircle 2 = .ok (.iload_n 1, 1) := by decide +kernel
theorem d_PR_hasCircle_3 : decode b_PR_hasCircle 3 = .ok (.bipush 26, 2) := by decide +kernel
theorem d_PR_hasCircle_5 : decode b_PR_hasCircle 5 = .ok (.if_icmp .ge 24, 3) := by decide +kernel
theorem d_PR_hasCircle_8 : decode b_PR_hasCircle 8 = .ok (.aload_n 0, 1) := by decide +kernel
theorem d_PR_hasCircle_9 : decode b_PR_hasCircle 9 = .ok (.getfield 17, 3) := by decide +kernel
theorem d_PR_hasCircle_12 : decode b_PR_hasCircle 12 = .ok (.iload_n 1, 1) := by decide +kernel
theorem d_PR_hasCircle_13 : decode b_PR_hasCircle 13 = .ok (.iaload, 1) := by decide +kernel
theorem d_PR_hasCircle_14 : decode b_PR_hasCircle 14 = .ok (.iload_n 1, 1) := by decide +kernel
theorem d_PR_hasCircle_15 : decode b_PR_hasCircle 15 = .ok (.invokestatic 55, 3) := by decide +kernel
theorem d_PR_hasCircle_18 : decode b_PR_hasCircle 18 = .ok (.ifCond .eq 5, 3) := by decide +kernel
theorem d_PR_hasCircle_21 : decode b_PR_hasCircle 21 = .ok (.iconst 1, 1) := by decide +kernel
theorem d_PR_hasCircle_22 : decode b_PR_hasCircle 22 = .ok (.ireturn, 1) := by decide +kernel
theorem d_PR_hasCircle_23 : decode b_PR_hasCircle 23 = .ok (.iinc 1 1, 3) := by decide +kernel
theorem d_PR_hasCircle_26 : decode b_PR_hasCircle 26 = .ok (.goto (-24), 3) := by decide +kernel
theorem d_PR_hasCircle_29 : decode b_PR_hasCircle 29 = .ok (.iconst 0, 1) := by decide +kernel
theorem d_PR_hasCircle_30 : decode b_PR_hasCircle 30 = .ok (.ireturn, 1) := by decide +kernel
theorem d_RD_init_0 : decode b_RD_init 0 = .ok (.aload_n 0, 1) := by decide +kernel
theorem d_RD_init_1 : decode b_RD_init 1 = .ok (.invokespecial 3, 3) := by decide +kernel
theorem d_RD_init_4 : decode b_RD_init 4 = .ok (.aload_n 0, 1) := by decide +kernel
theorem d_RD_init_5 : decode b_RD_init 5 = .ok (.bipush 6, 2) := by decide +kernel
theorem d_RD_init_7 : decode b_RD_init 7 = .ok (.newarray .int, 2) := by decide +kernel
theorem d_RD_init_9 : decode b_RD_init 9 = .ok (.putfield 9, 3) := by decide +kernel
theorem d_RD_init_12 : decode b_RD_init 12 = .ok (.return_, 1) := by decide +kernel
theorem d_RD_faultOf_0 : decode b_RD_faultOf 0 = .ok (.aload_n 1, 1) := by decide +kernel
theorem d_RD_faultOf_1 : decode b_RD_faultOf 1 = .ok (.invokevirtual 15, 3) := by decide +kernel
theorem d_RD_faultOf_4 : decode b_RD_faultOf 4 = .ok (.aload_n 0, 1) := by decide +kernel
theorem d_RD_faultOf_5 : decode b_RD_faultOf 5 = .ok (.iconst 0, 1) := by decide +kernel
theorem d_RD_faultOf_6 : decode b_RD_faultOf 6 = .ok (.putfield 20, 3) := by decide +kernel
theorem d_RD_faultOf_9 : decode b_RD_faultOf 9 = .ok (.aload_n 0, 1) := by decide +kernel
theorem d_RD_faultOf_10 : decode b_RD_faultOf 10 = .ok (.iconst 0, 1) := by decide +kernel
theorem d_RD_faultOf_11 : decode b_RD_faultOf 11 = .ok (.putfield 24, 3) := by decide +kernel
theorem d_RD_faultOf_14 : decode b_RD_faultOf 14 = .ok (.aload_n 1, 1) := by decide +kernel
theorem d_RD_faultOf_15 : decode b_RD_faultOf 15 = .ok (.invokevirtual 27, 3) := by decide +kernel
theorem d_RD_faultOf_18 : decode b_RD_faultOf 18 = .ok (.istore_n 2, 1) := by decide +kernel
theorem d_RD_faultOf_19 : decode b_RD_faultOf 19 = .ok (.iconst 0, 1) := by decide +kernel
theorem d_RD_faultOf_20 : decode b_RD_faultOf 20 = .ok (.istore_n 3, 1) := by decide +kernel
theorem d_RD_faultOf_21 : decode b_RD_faultOf 21 = .ok (.iload_n 3, 1) := by decide +kernel
theorem d_RD_faultOf_22 : decode b_RD_faultOf 22 = .ok (.iload_n 2, 1) := by decide +kernel
theorem d_RD_faultOf_23 : decode b_RD_faultOf 23 = .ok (.if_icmp .ge 20, 3) := by decide +kernel
theorem d_RD_faultOf_26 : decode b_RD_faultOf 26 = .ok (.aload_n 0, 1) := by decide +kernel
theorem d_RD_faultOf_27 : decode b_RD_faultOf 27 = .ok (.aload_n 1, 1) := by decide +kernel
theorem d_RD_faultOf_28 : decode b_RD_faultOf 28 = .ok (.iload_n 3, 1) := by decide +kernel
theorem d_RD_faultOf_29 : decode b_RD_faultOf 29 = .ok (.invokevirtual 31, 3) := by decide +kernel
theorem d_RD_faultOf_32 : decode b_RD_faultOf 32 = .ok (.ifCond .ne 5, 3) := by decide +kernel
theorem d_RD_faultOf_35 : decode b_RD_faultOf 35 = .ok (.iload_n 3, 1) := by decide +kernel
theorem d_RD_faultOf_36 : decode b_RD_faultOf 36 = .ok (.ireturn, 1) := by decide +kernel
theorem d_RD_faultOf_37 : decode b_RD_faultOf 37 = .ok (.iinc 3 1, 3) := by decide +kernel
theorem d_RD_faultOf_40 : decode b_RD_faultOf 40 = .ok (.goto (-19), 3) := by decide +kernel
theorem d_RD_faultOf_43 : decode b_RD_faultOf 43 = .ok (.aload_n 0, 1) := by decide +kernel
theorem d_RD_faultOf_44 : decode b_RD_faultOf 44 = .ok (.getfield 24, 3) := by decide +kernel
theorem d_RD_faultOf_47 : decode b_RD_faultOf 47 = .ok (.ifCond .ne 8, 3) := by decide +kernel
theorem d_RD_faultOf_50 : decode b_RD_faultOf 50 = .ok (.bipush (-2), 2) := by decide +kernel
theorem d_RD_faultOf_52 : decode b_RD_faultOf 52 = .ok (.goto 4, 3) := by decide +kernel
theorem d_RD_faultOf_55 : decode b_RD_faultOf 55 = .ok (.iload_n 2, 1) := by decide +kernel
theorem d_RD_faultOf_56 : decode b_RD_faultOf 56 = .ok (.ireturn, 1) := by decide +kernel
theorem d_RD_takes_0 : decode b_RD_takes 0 = .ok (.aload_n 1, 1) := by decide +kernel
theorem d_RD_takes_1 : decode b_RD_takes 1 = .ok (.iload_n 2, 1) := by decide +kernel
theorem d_RD_takes_2 : decode b_RD_takes 2 = .ok (.invokevirtual 35, 3) := by decide +kernel
theorem d_RD_takes_5 : decode b_RD_takes 5 = .ok (.istore_n 3, 1) := by decide +kernel
theorem d_RD_takes_6 : decode b_RD_takes 6 = .ok (.aload_n 0, 1) := by decide +kernel
theorem d_RD_takes_7 : decode b_RD_takes 7 = .ok (.getfield 24, 3) := by decide +kernel
theorem d_RD_takes_10 : decode b_RD_takes 10 = .ok (.tableswitch 175 0 7 #[46, 53, 77, 84, 106, 127, 147, 154], 46) := by decide +kernel
theorem d_RD_takes_56 : decode b_RD_takes 56 = .ok (.aload_n 0, 1) := by decide +kernel
theorem d_RD_takes_57 : decode b_RD_takes 57 = .ok (.aload_n 1, 1) := by decide +kernel
theorem d_RD_takes_58 : decode b_RD_takes 58 = .ok (.iload_n 2, 1) := by decide +kernel
theorem d_RD_takes_59 : decode b_RD_takes 59 = .ok (.invokevirtual 39, 3) := by decide +kernel
theorem d_RD_takes_62 : decode b_RD_takes 62 = .ok (.ireturn, 1) := by decide +kernel
theorem d_RD_takes_63 : decode b_RD_takes 63 = .ok (.iload_n 3, 1) := by decide +kernel
theorem d_RD_takes_64 : decode b_RD_takes 64 = .ok (.bipush 123, 2) := by decide +kernel
theorem d_RD_takes_66 : decode b_RD_takes 66 = .ok (.if_icmp .ne 19, 3) := by decide +kernel
theorem d_RD_takes_69 : decode b_RD_takes 69 = .ok (.aload_n 0, 1) := by decide +kernel
theorem d_RD_takes_70 : decode b_RD_takes 70 = .ok (.aload_n 0, 1) := by decide +kernel
theorem d_RD_takes_71 : decode b_RD_takes 71 = .ok (.getfield 42, 3) := by decide +kernel
theorem d_RD_takes_74 : decode b_RD_takes 74 = .ok (.iconst 2, 1) := by decide +kernel
theorem d_RD_takes_75 : decode b_RD_takes 75 = .ok (.invokevirtual 45, 3) := by decide +kernel
theorem d_RD_takes_78 : decode b_RD_takes 78 = .ok (.ifCond .eq 7, 3) := by decide +kernel
theorem d_RD_takes_81 : decode b_RD_takes 81 = .ok (.iconst 1, 1) := by decide +kernel
theorem d_RD_takes_82 : decode b_RD_takes 82 = .ok (.goto 4, 3) := by decide +kernel
theorem d_RD_takes_85 : decode b_RD_takes 85 = .ok (.iconst 0, 1) := by decide +kernel
theorem d_RD_takes_86 : decode b_RD_takes 86 = .ok (.ireturn, 1) := by decide +kernel
theorem d_RD_takes_87 : decode b_RD_takes 87 = .ok (.aload_n 0, 1) := by decide +kernel
theorem d_RD_takes_88 : decode b_RD_takes 88 = .ok (.aload_n 1, 1) := by decide +kernel
theorem d_RD_takes_89 : decode b_RD_takes 89 = .ok (.iload_n 2, 1) := by decide +kernel
theorem d_RD_takes_90 : decode b_RD_takes 90 = .ok (.invokevirtual 49, 3) := by decide +kernel
theorem d_RD_takes_93 : decode b_RD_takes 93 = .ok (.ireturn, 1) := by decide +kernel
theorem d_RD_takes_94 : decode b_RD_takes 94 = .ok (.iload_n 3, 1) := by decide +kernel
theorem d_RD_takes_95 : decode b_RD_takes 95 = .ok (.bipush 58, 2) := by decide +kernel
theorem d_RD_takes_97 : decode b_RD_takes 97 = .ok (.if_icmp .ne 12, 3) := by decide +kernel
theorem d_RD_takes_100 : decode b_RD_takes 100 = .ok (.aload_n 0, 1) := by decide +kernel
theorem d_RD_takes_101 : decode b_RD_takes 101 = .ok (.iload_n 2, 1) := by decide +kernel
theorem d_RD_takes_102 : decode b_RD_takes 102 = .ok (.iconst 1, 1) := by decide +kernel
theorem d_RD_takes_103 : decode b_RD_takes 103 = .ok (.invokevirtual 52, 3) := by decide +kernel
theorem d_RD_takes_106 : decode b_RD_takes 106 = .ok (.goto 9, 3) := by decide +kernel
theorem d_RD_takes_109 : decode b_RD_takes 109 = .ok (.aload_n 0, 1) := by decide +kernel
theorem d_RD_takes_110 : decode b_RD_takes 110 = .ok (.aload_n 1, 1) := by decide +kernel
theorem d_RD_takes_111 : decode b_RD_takes 111 = .ok (.iload_n 2, 1) := by decide +kernel
theorem d_RD_takes_112 : decode b_RD_takes 112 = .ok (.invokevirtual 49, 3) := by decide +kernel
theorem d_RD_takes_115 : decode b_RD_takes 115 = .ok (.ireturn, 1) := by decide +kernel
theorem d_RD_takes_116 : decode b_RD_takes 116 = .ok (.iload_n 3, 1) := by decide +kernel
theorem d_RD_takes_117 : decode b_RD_takes 117 = .ok (.bipush 61, 2) := by decide +kernel
theorem d_RD_takes_119 : decode b_RD_takes 119 = .ok (.if_icmp .ne 16, 3) := by decide +kernel
theorem d_RD_takes_122 : decode b_RD_takes 122 = .ok (.aload_n 0, 1) := by decide +kernel
theorem d_RD_takes_123 : decode b_RD_takes 123 = .ok (.bipush 6, 2) := by decide +kernel
theorem d_RD_takes_125 : decode b_RD_takes 125 = .ok (.invokevirtual 55, 3) := by decide +kernel
theorem d_RD_takes_128 : decode b_RD_takes 128 = .ok (.ifCond .eq 7, 3) := by decide +kernel
theorem d_RD_takes_131 : decode b_RD_takes 131 = .ok (.iconst 1, 1) := by decide +kernel
theorem d_RD_takes_132 : decode b_RD_takes 132 = .ok (.goto 4, 3) := by decide +kernel
theorem d_RD_takes_135 : decode b_RD_takes 135 = .ok (.iconst 0, 1) := by decide +kernel
theorem d_RD_takes_136 : decode b_RD_takes 136 = .ok (.ireturn, 1) := by decide +kernel
theorem d_RD_takes_137 : decode b_RD_takes 137 = .ok (.iload_n 3, 1) := by decide +kernel
theorem d_RD_takes_138 : decode b_RD_takes 138 = .ok (.bipush 59, 2) := by decide +kernel
theorem d_RD_takes_140 : decode b_RD_takes 140 = .ok (.if_icmp .ne 15, 3) := by decide +kernel
theorem d_RD_takes_143 : decode b_RD_takes 143 = .ok (.aload_n 0, 1) := by decide +kernel
theorem d_RD_takes_144 : decode b_RD_takes 144 = .ok (.iconst 2, 1) := by decide +kernel
theorem d_RD_takes_145 : decode b_RD_takes 145 = .ok (.invokevirtual 55, 3) := by decide +kernel
theorem d_RD_takes_148 : decode b_RD_takes 148 = .ok (.ifCond .eq 7, 3) := by decide +kernel
theorem d_RD_takes_151 : decode b_RD_takes 151 = .ok (.iconst 1, 1) := by decide +kernel
theorem d_RD_takes_152 : decode b_RD_takes 152 = .ok (.goto 4, 3) := by decide +kernel
theorem d_RD_takes_155 : decode b_RD_takes 155 = .ok (.iconst 0, 1) := by decide +kernel
theorem d_RD_takes_156 : decode b_RD_takes 156 = .ok (.ireturn, 1) := by decide +kernel
theorem d_RD_takes_157 : decode b_RD_takes 157 = .ok (.aload_n 0, 1) := by decide +kernel
theorem d_RD_takes_158 : decode b_RD_takes 158 = .ok (.aload_n 1, 1) := by decide +kernel
theorem d_RD_takes_159 : decode b_RD_takes 159 = .ok (.iload_n 2, 1) := by decide +kernel
theorem d_RD_takes_160 : decode b_RD_takes 160 = .ok (.invokevirtual 59, 3) := by decide +kernel
theorem d_RD_takes_163 : decode b_RD_takes 163 = .ok (.ireturn, 1) := by decide +kernel
theorem d_RD_takes_164 : decode b_RD_takes 164 = .ok (.iload_n 3, 1) := by decide +kernel
theorem d_RD_takes_165 : decode b_RD_takes 165 = .ok (.invokestatic 62, 3) := by decide +kernel
theorem d_RD_takes_168 : decode b_RD_takes 168 = .ok (.ifCond .eq 10, 3) := by decide +kernel
theorem d_RD_takes_171 : decode b_RD_takes 171 = .ok (.aload_n 0, 1) := by decide +kernel
theorem d_RD_takes_172 : decode b_RD_takes 172 = .ok (.invokevirtual 65, 3) := by decide +kernel
theorem d_RD_takes_175 : decode b_RD_takes 175 = .ok (.goto 9, 3) := by decide +kernel
theorem d_RD_takes_178 : decode b_RD_takes 178 = .ok (.aload_n 0, 1) := by decide +kernel
theorem d_RD_takes_179 : decode b_RD_takes 179 = .ok (.aload_n 1, 1) := by decide +kernel
theorem d_RD_takes_180 : decode b_RD_takes 180 = .ok (.iload_n 2, 1) := by decide +kernel
theorem d_RD_takes_181 : decode b_RD_takes 181 = .ok (.invokevirtual 69, 3) := by decide +kernel
theorem d_RD_takes_184 : decode b_RD_takes 184 = .ok (.ireturn, 1) := by decide +kernel
theorem d_RD_takes_185 : decode b_RD_takes 185 = .ok (.aload_n 0, 1) := by decide +kernel
theorem d_RD_takes_186 : decode b_RD_takes 186 = .ok (.aload_n 1, 1) := by decide +kernel
theorem d_RD_takes_187 : decode b_RD_takes 187 = .ok (.iload_n 2, 1) := by decide +kernel
theorem d_RD_takes_188 : decode b_RD_takes 188 = .ok (.invokevirtual 69, 3) := by decide +kernel
theorem d_RD_takes_191 : decode b_RD_takes 191 = .ok (.ireturn, 1) := by decide +kernel
theorem d_RD_takesProcedure_0 : decode b_RD_takesProcedure 0 = .ok (.aload_n 1, 1) := by decide +kernel
theorem d_RD_takesProcedure_1 : decode b_RD_takesProcedure 1 = .ok (.iload_n 2, 1) := by decide +kernel
theorem d_RD_takesProcedure_2 : decode b_RD_takesProcedure 2 = .ok (.invokevirtual 35, 3) := by decide +kernel
theorem d_RD_takesProcedure_5 : decode b_RD_takesProcedure 5 = .ok (.istore_n 3, 1) := by decide +kernel
theorem d_RD_takesProcedure_6 : decode b_RD_takesProcedure 6 = .ok (.iload_n 3, 1) := by decide +kernel
theorem d_RD_takesProcedure_7 : decode b_RD_takesProcedure 7 = .ok (.invokestatic 72, 3) := by decide +kernel
theorem d_RD_takesProcedure_10 : decode b_RD_takesProcedure 10 = .ok (.ifCond .ne 5, 3) := by decide +kernel
theorem d_RD_takesProcedure_13 : decode b_RD_takesProcedure 13 = .ok (.iconst 0, 1) := by decide +kernel
theorem d_RD_takesProcedure_14 : decode b_RD_takesProcedure 14 = .ok (.ireturn, 1) := by decide +kernel
theorem d_RD_takesProcedure_15 : decode b_RD_takesProcedure 15 = .ok (.aload_n 0, 1) := by decide +kernel
theorem d_RD_takesProcedure_16 : decode b_RD_takesProcedure 16 = .ok (.iload_n 3, 1) := by decide +kernel
theorem d_RD_takesProcedure_17 : decode b_RD_takesProcedure 17 = .ok (.bipush 65, 2) := by decide +kernel
theorem d_RD_takesProcedure_19 : decode b_RD_takesProcedure 19 = .ok (.isub, 1) := by decide +kernel
theorem d_RD_takesProcedure_20 : decode b_RD_takesProcedure 20 = .ok (.putfield 75, 3) := by decide +kernel
theorem d_RD_takesProcedure_23 : decode b_RD_takesProcedure 23 = .ok (.aload_n 0, 1) := by decide +kernel
theorem d_RD_takesProcedure_24 : decode b_RD_takesProcedure 24 = .ok (.iconst 0, 1) := by decide +kernel
theorem d_RD_takesProcedure_25 : decode b_RD_takesProcedure 25 = .ok (.putfield 78, 3) := by decide +kernel
theorem d_RD_takesProcedure_28 : decode b_RD_takesProcedure 28 = .ok (.aload_n 1, 1) := by decide +kernel
theorem d_RD_takesProcedure_29 : decode b_RD_takesProcedure 29 = .ok (.aload_n 0, 1) := by decide +kernel
theorem d_RD_takesProcedure_30 : decode b_RD_takesProcedure 30 = .ok (.getfield 75, 3) := by decide +kernel
theorem d_RD_takesProcedure_33 : decode b_RD_takesProcedure 33 = .ok (.iload_n 2, 1) := by decide +kernel
theorem d_RD_takesProcedure_34 : decode b_RD_takesProcedure 34 = .ok (.invokevirtual 81, 3) := by decide +kernel
theorem d_RD_takesProcedure_37 : decode b_RD_takesProcedure 37 = .ok (.aload_n 0, 1) := by decide +kernel
theorem d_RD_takesProcedure_38 : decode b_RD_takesProcedure 38 = .ok (.iload_n 2, 1) := by decide +kernel
theorem d_RD_takesProcedure_39 : decode b_RD_takesProcedure 39 = .ok (.iconst 1, 1) := by decide +kernel
theorem d_RD_takesProcedure_40 : decode b_RD_takesProcedure 40 = .ok (.invokevirtual 52, 3) := by decide +kernel
theorem d_RD_takesProcedure_43 : decode b_RD_takesProcedure 43 = .ok (.ireturn, 1) := by decide +kernel
theorem d_RD_takesStatement_0 : decode b_RD_takesStatement 0 = .ok (.aload_n 1, 1) := by decide +kernel
theorem d_RD_takesStatement_1 : decode b_RD_takesStatement 1 = .ok (.iload_n 2, 1) := by decide +kernel
theorem d_RD_takesStatement_2 : decode b_RD_takesStatement 2 = .ok (.invokevirtual 35, 3) := by decide +kernel
theorem d_RD_takesStatement_5 : decode b_RD_takesStatement 5 = .ok (.istore_n 3, 1) := by decide +kernel
theorem d_RD_takesStatement_6 : decode b_RD_takesStatement 6 = .ok (.iload_n 3, 1) := by decide +kernel
theorem d_RD_takesStatement_7 : decode b_RD_takesStatement 7 = .ok (.bipush 125, 2) := by decide +kernel
theorem d_RD_takesStatement_9 : decode b_RD_takesStatement 9 = .ok (.if_icmp .ne 10, 3) := by decide +kernel
theorem d_RD_takesStatement_12 : decode b_RD_takesStatement 12 = .ok (.aload_n 0, 1) := by decide +kernel
theorem d_RD_takesStatement_13 : decode b_RD_takesStatement 13 = .ok (.aload_n 1, 1) := by decide +kernel
theorem d_RD_takesStatement_14 : decode b_RD_takesStatement 14 = .ok (.iload_n 2, 1) := by decide +kernel
theorem d_RD_takesStatement_15 : decode b_RD_takesStatement 15 = .ok (.invokevirtual 85, 3) := by decide +kernel
theorem d_RD_takesStatement_18 : decode b_RD_takesStatement 18 = .ok (.ireturn, 1) := by decide +kernel
theorem d_RD_takesStatement_19 : decode b_RD_takesStatement 19 = .ok (.iload_n 3, 1) := by decide +kernel
theorem d_RD_takesStatement_20 : decode b_RD_takesStatement 20 = .ok (.invokestatic 88, 3) := by decide +kernel
theorem d_RD_takesStatement_23 : decode b_RD_takesStatement 23 = .ok (.istore 4, 2) := by decide +kernel
theorem d_RD_takesStatement_25 : decode b_RD_takesStatement 25 = .ok (.iload 4, 2) := by decide +kernel
theorem d_RD_takesStatement_27 : decode b_RD_takesStatement 27 = .ok (.iconst 2, 1) := by decide +kernel
theorem d_RD_takesStatement_28 : decode b_RD_takesStatement 28 = .ok (.if_icmp .ne 5, 3) := by decide +kernel
theorem d_RD_takesStatement_31 : decode b_RD_takesStatement 31 = .ok (.iconst 0, 1) := by decide +kernel
theorem d_RD_takesStatement_32 : decode b_RD_takesStatement 32 = .ok (.ireturn, 1) := by decide +kernel
theorem d_RD_takesStatement_33 : decode b_RD_takesStatement 33 = .ok (.iload 4, 2) := by decide +kernel
theorem d_RD_takesStatement_35 : decode b_RD_takesStatement 35 = .ok (.iconst 5, 1) := by decide +kernel
theorem d_RD_takesStatement_36 : decode b_RD_takesStatement 36 = .ok (.if_icmp .ne 15, 3) := by decide +kernel
theorem d_RD_takesStatement_39 : decode b_RD_takesStatement 39 = .ok (.aload_n 1, 1) := by decide +kernel
theorem d_RD_takesStatement_40 : decode b_RD_takesStatement 40 = .ok (.aload_n 0, 1) := by decide +kernel
theorem d_RD_takesStatement_41 : decode b_RD_takesStatement 41 = .ok (.getfield 75, 3) := by decide +kernel
theorem d_RD_takesStatement_44 : decode b_RD_takesStatement 44 = .ok (.iload_n 3, 1) := by decide +kernel
theorem d_RD_takesStatement_45 : decode b_RD_takesStatement 45 = .ok (.bipush 65, 2) := by decide +kernel
theorem d_RD_takesStatement_47 : decode b_RD_takesStatement 47 = .ok (.isub, 1) := by decide +kernel
theorem d_RD_takesStatement_48 : decode b_RD_takesStatement 48 = .ok (.invokevirtual 91, 3) := by decide +kernel
theorem d_RD_takesStatement_51 : decode b_RD_takesStatement 51 = .ok (.aload_n 0, 1) := by decide +kernel
theorem d_RD_takesStatement_52 : decode b_RD_takesStatement 52 = .ok (.dup, 1) := by decide +kernel
theorem d_RD_takesStatement_53 : decode b_RD_takesStatement 53 = .ok (.getfield 78, 3) := by decide +kernel
theorem d_RD_takesStatement_56 : decode b_RD_takesStatement 56 = .ok (.iconst 1, 1) := by decide +kernel
theorem d_RD_takesStatement_57 : decode b_RD_takesStatement 57 = .ok (.iadd, 1) := by decide +kernel
theorem d_RD_takesStatement_58 : decode b_RD_takesStatement 58 = .ok (.putfield 78, 3) := by decide +kernel
theorem d_RD_takesStatement_61 : decode b_RD_takesStatement 61 = .ok (.aload_n 1, 1) := by decide +kernel
theorem d_RD_takesStatement_62 : decode b_RD_takesStatement 62 = .ok (.iload_n 2, 1) := by decide +kernel
theorem d_RD_takesStatement_63 : decode b_RD_takesStatement 63 = .ok (.aload_n 0, 1) := by decide +kernel
theorem d_RD_takesStatement_64 : decode b_RD_takesStatement 64 = .ok (.getfield 78, 3) := by decide +kernel
theorem d_RD_takesStatement_67 : decode b_RD_takesStatement 67 = .ok (.invokevirtual 94, 3) := by decide +kernel
theorem d_RD_takesStatement_70 : decode b_RD_takesStatement 70 = .ok (.aload_n 0, 1) := by decide +kernel
theorem d_RD_takesStatement_71 : decode b_RD_takesStatement 71 = .ok (.iload_n 3, 1) := by decide +kernel
theorem d_RD_takesStatement_72 : decode b_RD_takesStatement 72 = .ok (.bipush 63, 2) := by decide +kernel
theorem d_RD_takesStatement_74 : decode b_RD_takesStatement 74 = .ok (.if_icmp .eq 9, 3) := by decide +kernel
theorem d_RD_takesStatement_77 : decode b_RD_takesStatement 77 = .ok (.iload_n 3, 1) := by decide +kernel
theorem d_RD_takesStatement_78 : decode b_RD_takesStatement 78 = .ok (.bipush 64, 2) := by decide +kernel
theorem d_RD_takesStatement_80 : decode b_RD_takesStatement 80 = .ok (.if_icmp .ne 8, 3) := by decide +kernel
theorem d_RD_takesStatement_83 : decode b_RD_takesStatement 83 = .ok (.bipush 123, 2) := by decide +kernel
theorem d_RD_takesStatement_85 : decode b_RD_takesStatement 85 = .ok (.goto 5, 3) := by decide +kernel
theorem d_RD_takesStatement_88 : decode b_RD_takesStatement 88 = .ok (.bipush 59, 2) := by decide +kernel
theorem d_RD_takesStatement_90 : decode b_RD_takesStatement 90 = .ok (.putfield 97, 3) := by decide +kernel
theorem d_RD_takesStatement_93 : decode b_RD_takesStatement 93 = .ok (.aload_n 0, 1) := by decide +kernel
theorem d_RD_takesStatement_94 : decode b_RD_takesStatement 94 = .ok (.iload_n 2, 1) := by decide +kernel
theorem d_RD_takesStatement_95 : decode b_RD_takesStatement 95 = .ok (.iload 4, 2) := by decide +kernel
theorem d_RD_takesStatement_97 : decode b_RD_takesStatement 97 = .ok (.invokevirtual 52, 3) := by decide +kernel
theorem d_RD_takesStatement_100 : decode b_RD_takesStatement 100 = .ok (.ireturn, 1) := by decide +kernel
theorem d_RD_behindFirstSign_0 : decode b_RD_behindFirstSign 0 = .ok (.iload_n 0, 1) := by decide +kernel
theorem d_RD_behindFirstSign_1 : decode b_RD_behindFirstSign 1 = .ok (.invokestatic 100, 3) := by decide +kernel
theorem d_RD_behindFirstSign_4 : decode b_RD_behindFirstSign 4 = .ok (.ifCond .eq 5, 3) := by decide +kernel
theorem d_RD_behindFirstSign_7 : decode b_RD_behindFirstSign 7 = .ok (.iconst 4, 1) := by decide +kernel
theorem d_RD_behindFirstSign_8 : decode b_RD_behindFirstSign 8 = .ok (.ireturn, 1) := by decide +kernel
theorem d_RD_behindFirstSign_9 : decode b_RD_behindFirstSign 9 = .ok (.iload_n 0, 1) := by decide +kernel
theorem d_RD_behindFirstSign_10 : decode b_RD_behindFirstSign 10 = .ok (.invokestatic 72, 3) := by decide +kernel
theorem d_RD_behindFirstSign_13 : decode b_RD_behindFirstSign 13 = .ok (.ifCond .eq 5, 3) := by decide +kernel
theorem d_RD_behindFirstSign_16 : decode b_RD_behindFirstSign 16 = .ok (.iconst 5, 1) := by decide +kernel
theorem d_RD_behindFirstSign_17 : decode b_RD_behindFirstSign 17 = .ok (.ireturn, 1) := by decide +kernel
theorem d_RD_behindFirstSign_18 : decode b_RD_behindFirstSign 18 = .ok (.iload_n 0, 1) := by decide +kernel
theorem d_RD_behindFirstSign_19 : decode b_RD_behindFirstSign 19 = .ok (.bipush 33, 2) := by decide +kernel
theorem d_RD_behindFirstSign_21 : decode b_RD_behindFirstSign 21 = .ok (.if_icmp .eq 15, 3) := by decide +kernel
theorem d_RD_behindFirstSign_24 : decode b_RD_behindFirstSign 24 = .ok (.iload_n 0, 1) := by decide +kernel
theorem d_RD_behindFirstSign_25 : decode b_RD_behindFirstSign 25 = .ok (.bipush 63, 2) := by decide +kernel
theorem d_RD_behindFirstSign_27 : decode b_RD_behindFirstSign 27 = .ok (.if_icmp .eq 9, 3) := by decide +kernel
theorem d_RD_behindFirstSign_30 : decode b_RD_behindFirstSign 30 = .ok (.iload_n 0, 1) := by decide +kernel
theorem d_RD_behindFirstSign_31 : decode b_RD_behindFirstSign 31 = .ok (.bipush 64, 2) := by decide +kernel
theorem d_RD_behindFirstSign_33 : decode b_RD_behindFirstSign 33 = .ok (.if_icmp .ne 8, 3) := by decide +kernel
theorem d_RD_behindFirstSign_36 : decode b_RD_behindFirstSign 36 = .ok (.bipush 6, 2) := by decide +kernel
theorem d_RD_behindFirstSign_38 : decode b_RD_behindFirstSign 38 = .ok (.goto 4, 3) := by decide +kernel
theorem d_RD_behindFirstSign_41 : decode b_RD_behindFirstSign 41 = .ok (.iconst 2, 1) := by decide +kernel
theorem d_RD_behindFirstSign_42 : decode b_RD_behindFirstSign 42 = .ok (.ireturn, 1) := by decide +kernel
theorem d_RD_closesBlock_0 : decode b_RD_closesBlock 0 = .ok (.aload_n 0, 1) := by decide +kernel
theorem d_RD_closesBlock_1 : decode b_RD_closesBlock 1 = .ok (.getfield 20, 3) := by decide +kernel
theorem d_RD_closesBlock_4 : decode b_RD_closesBlock 4 = .ok (.iconst 1, 1) := by decide +kernel
theorem d_RD_closesBlock_5 : decode b_RD_closesBlock 5 = .ok (.if_icmp .ge 5, 3) := by decide +kernel
theorem d_RD_closesBlock_8 : decode b_RD_closesBlock 8 = .ok (.iconst 0, 1) := by decide +kernel
theorem d_RD_closesBlock_9 : decode b_RD_closesBlock 9 = .ok (.ireturn, 1) := by decide +kernel
theorem d_RD_closesBlock_10 : decode b_RD_closesBlock 10 = .ok (.aload_n 0, 1) := by decide +kernel
theorem d_RD_closesBlock_11 : decode b_RD_closesBlock 11 = .ok (.dup, 1) := by decide +kernel
theorem d_RD_closesBlock_12 : decode b_RD_closesBlock 12 = .ok (.getfield 20, 3) := by decide +kernel
theorem d_RD_closesBlock_15 : decode b_RD_closesBlock 15 = .ok (.iconst 1, 1) := by decide +kernel
theorem d_RD_closesBlock_16 : decode b_RD_closesBlock 16 = .ok (.isub, 1) := by decide +kernel
theorem d_RD_closesBlock_17 : decode b_RD_closesBlock 17 = .ok (.putfield 20, 3) := by decide +kernel
theorem d_RD_closesBlock_20 : decode b_RD_closesBlock 20 = .ok (.aload_n 0, 1) := by decide +kernel
theorem d_RD_closesBlock_21 : decode b_RD_closesBlock 21 = .ok (.getfield 9, 3) := by decide +kernel
theorem d_RD_closesBlock_24 : decode b_RD_closesBlock 24 = .ok (.aload_n 0, 1) := by decide +kernel
theorem d_RD_closesBlock_25 : decode b_RD_closesBlock 25 = .ok (.getfield 20, 3) := by decide +kernel
theorem d_RD_closesBlock_28 : decode b_RD_closesBlock 28 = .ok (.iaload, 1) := by decide +kernel
theorem d_RD_closesBlock_29 : decode b_RD_closesBlock 29 = .ok (.istore_n 3, 1) := by decide +kernel
theorem d_RD_closesBlock_30 : decode b_RD_closesBlock 30 = .ok (.aload_n 1, 1) := by decide +kernel
theorem d_RD_closesBlock_31 : decode b_RD_closesBlock 31 = .ok (.iload_n 3, 1) := by decide +kernel
theorem d_RD_closesBlock_32 : decode b_RD_closesBlock 32 = .ok (.iload_n 2, 1) := by decide +kernel
theorem d_RD_closesBlock_33 : decode b_RD_closesBlock 33 = .ok (.invokevirtual 103, 3) := by decide +kernel
theorem d_RD_closesBlock_36 : decode b_RD_closesBlock 36 = .ok (.aload_n 1, 1) := by decide +kernel
theorem d_RD_closesBlock_37 : decode b_RD_closesBlock 37 = .ok (.iload_n 3, 1) := by decide +kernel
theorem d_RD_closesBlock_38 : decode b_RD_closesBlock 38 = .ok (.invokevirtual 35, 3) := by decide +kernel
theorem d_RD_closesBlock_41 : decode b_RD_closesBlock 41 = .ok (.istore 4, 2) := by decide +kernel
theorem d_RD_closesBlock_43 : decode b_RD_closesBlock 43 = .ok (.iload 4, 2) := by decide +kernel
theorem d_RD_closesBlock_45 : decode b_RD_closesBlock 45 = .ok (.invokestatic 72, 3) := by decide +kernel
theorem d_RD_closesBlock_48 : decode b_RD_closesBlock 48 = .ok (.ifCond .eq 9, 3) := by decide +kernel
theorem d_RD_closesBlock_51 : decode b_RD_closesBlock 51 = .ok (.aload_n 0, 1) := by decide +kernel
theorem d_RD_closesBlock_52 : decode b_RD_closesBlock 52 = .ok (.iconst 0, 1) := by decide +kernel
theorem d_RD_closesBlock_53 : decode b_RD_closesBlock 53 = .ok (.invokevirtual 55, 3) := by decide +kernel
theorem d_RD_closesBlock_56 : decode b_RD_closesBlock 56 = .ok (.ireturn, 1) := by decide +kernel
theorem d_RD_closesBlock_57 : decode b_RD_closesBlock 57 = .ok (.aload_n 0, 1) := by decide +kernel
theorem d_RD_closesBlock_58 : decode b_RD_closesBlock 58 = .ok (.iload 4, 2) := by decide +kernel
theorem d_RD_closesBlock_60 : decode b_RD_closesBlock 60 = .ok (.bipush 63, 2) := by decide +kernel
theorem d_RD_closesBlock_62 : decode b_RD_closesBlock 62 = .ok (.if_icmp .ne 7, 3) := by decide +kernel
theorem d_RD_closesBlock_65 : decode b_RD_closesBlock 65 = .ok (.iconst 3, 1) := by decide +kernel
theorem d_RD_closesBlock_66 : decode b_RD_closesBlock 66 = .ok (.goto 4, 3) := by decide +kernel
theorem d_RD_closesBlock_69 : decode b_RD_closesBlock 69 = .ok (.iconst 2, 1) := by decide +kernel
theorem d_RD_closesBlock_70 : decode b_RD_closesBlock 70 = .ok (.invokevirtual 55, 3) := by decide +kernel
theorem d_RD_closesBlock_73 : decode b_RD_closesBlock 73 = .ok (.ireturn, 1) := by decide +kernel
theorem d_RD_takesOperand_0 : decode b_RD_takesOperand 0 = .ok (.aload_n 1, 1) := by decide +kernel
theorem d_RD_takesOperand_1 : decode b_RD_takesOperand 1 = .ok (.iload_n 2, 1) := by decide +kernel
theorem d_RD_takesOperand_2 : decode b_RD_takesOperand 2 = .ok (.invokevirtual 35, 3) := by decide +kernel
theorem d_RD_takesOperand_5 : decode b_RD_takesOperand 5 = .ok (.istore_n 3, 1) := by decide +kernel
theorem d_RD_takesOperand_6 : decode b_RD_takesOperand 6 = .ok (.iload_n 3, 1) := by decide +kernel
theorem d_RD_takesOperand_7 : decode b_RD_takesOperand 7 = .ok (.bipush 40, 2) := by decide +kernel
theorem d_RD_takesOperand_9 : decode b_RD_takesOperand 9 = .ok (.if_icmp .eq 10, 3) := by decide +kernel
theorem d_RD_takesOperand_12 : decode b_RD_takesOperand 12 = .ok (.iload_n 3, 1) := by decide +kernel
theorem d_RD_takesOperand_13 : decode b_RD_takesOperand 13 = .ok (.invokestatic 106, 3) := by decide +kernel
theorem d_RD_takesOperand_16 : decode b_RD_takesOperand 16 = .ok (.ifCond .eq 11, 3) := by decide +kernel
theorem d_RD_takesOperand_19 : decode b_RD_takesOperand 19 = .ok (.aload_n 0, 1) := by decide +kernel
theorem d_RD_takesOperand_20 : decode b_RD_takesOperand 20 = .ok (.iload_n 2, 1) := by decide +kernel
theorem d_RD_takesOperand_21 : decode b_RD_takesOperand 21 = .ok (.bipush 6, 2) := by decide +kernel
theorem d_RD_takesOperand_23 : decode b_RD_takesOperand 23 = .ok (.invokevirtual 45, 3) := by decide +kernel
theorem d_RD_takesOperand_26 : decode b_RD_takesOperand 26 = .ok (.ireturn, 1) := by decide +kernel
theorem d_RD_takesOperand_27 : decode b_RD_takesOperand 27 = .ok (.iload_n 3, 1) := by decide +kernel
theorem d_RD_takesOperand_28 : decode b_RD_takesOperand 28 = .ok (.invokestatic 100, 3) := by decide +kernel
theorem d_RD_takesOperand_31 : decode b_RD_takesOperand 31 = .ok (.ifCond .eq 11, 3) := by decide +kernel
theorem d_RD_takesOperand_34 : decode b_RD_takesOperand 34 = .ok (.aload_n 0, 1) := by decide +kernel
theorem d_RD_takesOperand_35 : decode b_RD_takesOperand 35 = .ok (.aload_n 1, 1) := by decide +kernel
theorem d_RD_takesOperand_36 : decode b_RD_takesOperand 36 = .ok (.bipush 8, 2) := by decide +kernel
theorem d_RD_takesOperand_38 : decode b_RD_takesOperand 38 = .ok (.invokevirtual 109, 3) := by decide +kernel
theorem d_RD_takesOperand_41 : decode b_RD_takesOperand 41 = .ok (.ireturn, 1) := by decide +kernel
theorem d_RD_takesOperand_42 : decode b_RD_takesOperand 42 = .ok (.aload_n 0, 1) := by decide +kernel
theorem d_RD_takesOperand_43 : decode b_RD_takesOperand 43 = .ok (.iconst 1, 1) := by decide +kernel
theorem d_RD_takesOperand_44 : decode b_RD_takesOperand 44 = .ok (.putfield 112, 3) := by decide +kernel
theorem d_RD_takesOperand_47 : decode b_RD_takesOperand 47 = .ok (.iload_n 3, 1) := by decide +kernel
theorem d_RD_takesOperand_48 : decode b_RD_takesOperand 48 = .ok (.invokestatic 62, 3) := by decide +kernel
theorem d_RD_takesOperand_51 : decode b_RD_takesOperand 51 = .ok (.ifCond .eq 17, 3) := by decide +kernel
theorem d_RD_takesOperand_54 : decode b_RD_takesOperand 54 = .ok (.aload_n 0, 1) := by decide +kernel
theorem d_RD_takesOperand_55 : decode b_RD_takesOperand 55 = .ok (.aload_n 1, 1) := by decide +kernel
theorem d_RD_takesOperand_56 : decode b_RD_takesOperand 56 = .ok (.bipush 7, 2) := by decide +kernel
theorem d_RD_takesOperand_58 : decode b_RD_takesOperand 58 = .ok (.invokevirtual 109, 3) := by decide +kernel
theorem d_RD_takesOperand_61 : decode b_RD_takesOperand 61 = .ok (.ifCond .eq 7, 3) := by decide +kernel
theorem d_RD_takesOperand_64 : decode b_RD_takesOperand 64 = .ok (.iconst 1, 1) := by decide +kernel
theorem d_RD_takesOperand_65 : decode b_RD_takesOperand 65 = .ok (.goto 4, 3) := by decide +kernel
theorem d_RD_takesOperand_68 : decode b_RD_takesOperand 68 = .ok (.iconst 0, 1) := by decide +kernel
theorem d_RD_takesOperand_69 : decode b_RD_takesOperand 69 = .ok (.ireturn, 1) := by decide +kernel
theorem d_RD_takesDigit_0 : decode b_RD_takesDigit 0 = .ok (.aload_n 0, 1) := by decide +kernel
theorem d_RD_takesDigit_1 : decode b_RD_takesDigit 1 = .ok (.dup, 1) := by decide +kernel
theorem d_RD_takesDigit_2 : decode b_RD_takesDigit 2 = .ok (.getfield 112, 3) := by decide +kernel
theorem d_RD_takesDigit_5 : decode b_RD_takesDigit 5 = .ok (.iconst 1, 1) := by decide +kernel
theorem d_RD_takesDigit_6 : decode b_RD_takesDigit 6 = .ok (.iadd, 1) := by decide +kernel
theorem d_RD_takesDigit_7 : decode b_RD_takesDigit 7 = .ok (.putfield 112, 3) := by decide +kernel
theorem d_RD_takesDigit_10 : decode b_RD_takesDigit 10 = .ok (.aload_n 0, 1) := by decide +kernel
theorem d_RD_takesDigit_11 : decode b_RD_takesDigit 11 = .ok (.getfield 112, 3) := by decide +kernel
theorem d_RD_takesDigit_14 : decode b_RD_takesDigit 14 = .ok (.iconst 4, 1) := by decide +kernel
theorem d_RD_takesDigit_15 : decode b_RD_takesDigit 15 = .ok (.if_icmp .gt 7, 3) := by decide +kernel
theorem d_RD_takesDigit_18 : decode b_RD_takesDigit 18 = .ok (.iconst 1, 1) := by decide +kernel
theorem d_RD_takesDigit_19 : decode b_RD_takesDigit 19 = .ok (.goto 4, 3) := by decide +kernel
theorem d_RD_takesDigit_22 : decode b_RD_takesDigit 22 = .ok (.iconst 0, 1) := by decide +kernel
theorem d_RD_takesDigit_23 : decode b_RD_takesDigit 23 = .ok (.ireturn, 1) := by decide +kernel
theorem d_RD_takesOperator_0 : decode b_RD_takesOperator 0 = .ok (.aload_n 1, 1) := by decide +kernel
theorem d_RD_takesOperator_1 : decode b_RD_takesOperator 1 = .ok (.iload_n 2, 1) := by decide +kernel
theorem d_RD_takesOperator_2 : decode b_RD_takesOperator 2 = .ok (.invokevirtual 35, 3) := by decide +kernel
theorem d_RD_takesOperator_5 : decode b_RD_takesOperator 5 = .ok (.istore_n 3, 1) := by decide +kernel
theorem d_RD_takesOperator_6 : decode b_RD_takesOperator 6 = .ok (.iload_n 3, 1) := by decide +kernel
theorem d_RD_takesOperator_7 : decode b_RD_takesOperator 7 = .ok (.invokestatic 115, 3) := by decide +kernel
theorem d_RD_takesOperator_10 : decode b_RD_takesOperator 10 = .ok (.iconst (-1), 1) := by decide +kernel
theorem d_RD_takesOperator_11 : decode b_RD_takesOperator 11 = .ok (.if_icmp .eq 10, 3) := by decide +kernel
theorem d_RD_takesOperator_14 : decode b_RD_takesOperator 14 = .ok (.aload_n 0, 1) := by decide +kernel
theorem d_RD_takesOperator_15 : decode b_RD_takesOperator 15 = .ok (.bipush 6, 2) := by decide +kernel
theorem d_RD_takesOperator_17 : decode b_RD_takesOperator 17 = .ok (.invokevirtual 55, 3) := by decide +kernel
theorem d_RD_takesOperator_20 : decode b_RD_takesOperator 20 = .ok (.ireturn, 1) := by decide +kernel
theorem d_RD_takesOperator_21 : decode b_RD_takesOperator 21 = .ok (.aload_n 0, 1) := by decide +kernel
theorem d_RD_takesOperator_22 : decode b_RD_takesOperator 22 = .ok (.aload_n 1, 1) := by decide +kernel
theorem d_RD_takesOperator_23 : decode b_RD_takesOperator 23 = .ok (.invokevirtual 118, 3) := by decide +kernel
theorem d_RD_takesOperator_26 : decode b_RD_takesOperator 26 = .ok (.bipush 40, 2) := by decide +kernel
theorem d_RD_takesOperator_28 : decode b_RD_takesOperator 28 = .ok (.if_icmp .ne 7, 3) := by decide +kernel
theorem d_RD_takesOperator_31 : decode b_RD_takesOperator 31 = .ok (.iconst 1, 1) := by decide +kernel
theorem d_RD_takesOperator_32 : decode b_RD_takesOperator 32 = .ok (.goto 4, 3) := by decide +kernel
theorem d_RD_takesOperator_35 : decode b_RD_takesOperator 35 = .ok (.iconst 0, 1) := by decide +kernel
theorem d_RD_takesOperator_36 : decode b_RD_takesOperator 36 = .ok (.istore 4, 2) := by decide +kernel
theorem d_RD_takesOperator_38 : decode b_RD_takesOperator 38 = .ok (.iload_n 3, 1) := by decide +kernel
theorem d_RD_takesOperator_39 : decode b_RD_takesOperator 39 = .ok (.iload 4, 2) := by decide +kernel
theorem d_RD_takesOperator_41 : decode b_RD_takesOperator 41 = .ok (.ifCond .eq 8, 3) := by decide +kernel
theorem d_RD_takesOperator_44 : decode b_RD_takesOperator 44 = .ok (.bipush 41, 2) := by decide +kernel
theorem d_RD_takesOperator_46 : decode b_RD_takesOperator 46 = .ok (.goto 7, 3) := by decide +kernel
theorem d_RD_takesOperator_49 : decode b_RD_takesOperator 49 = .ok (.aload_n 0, 1) := by decide +kernel
theorem d_RD_takesOperator_50 : decode b_RD_takesOperator 50 = .ok (.getfield 97, 3) := by decide +kernel
theorem d_RD_takesOperator_53 : decode b_RD_takesOperator 53 = .ok (.if_icmp .eq 5, 3) := by decide +kernel
theorem d_RD_takesOperator_56 : decode b_RD_takesOperator 56 = .ok (.iconst 0, 1) := by decide +kernel
theorem d_RD_takesOperator_57 : decode b_RD_takesOperator 57 = .ok (.ireturn, 1) := by decide +kernel
theorem d_RD_takesOperator_58 : decode b_RD_takesOperator 58 = .ok (.iload 4, 2) := by decide +kernel
theorem d_RD_takesOperator_60 : decode b_RD_takesOperator 60 = .ok (.ifCond .eq 21, 3) := by decide +kernel
theorem d_RD_takesOperator_63 : decode b_RD_takesOperator 63 = .ok (.aload_n 0, 1) := by decide +kernel
theorem d_RD_takesOperator_64 : decode b_RD_takesOperator 64 = .ok (.dup, 1) := by decide +kernel
theorem d_RD_takesOperator_65 : decode b_RD_takesOperator 65 = .ok (.getfield 20, 3) := by decide +kernel
theorem d_RD_takesOperator_68 : decode b_RD_takesOperator 68 = .ok (.iconst 1, 1) := by decide +kernel
theorem d_RD_takesOperator_69 : decode b_RD_takesOperator 69 = .ok (.isub, 1) := by decide +kernel
theorem d_RD_takesOperator_70 : decode b_RD_takesOperator 70 = .ok (.putfield 20, 3) := by decide +kernel
theorem d_RD_takesOperator_73 : decode b_RD_takesOperator 73 = .ok (.aload_n 0, 1) := by decide +kernel
theorem d_RD_takesOperator_74 : decode b_RD_takesOperator 74 = .ok (.aload_n 1, 1) := by decide +kernel
theorem d_RD_takesOperator_75 : decode b_RD_takesOperator 75 = .ok (.bipush 8, 2) := by decide +kernel
theorem d_RD_takesOperator_77 : decode b_RD_takesOperator 77 = .ok (.invokevirtual 109, 3) := by decide +kernel
theorem d_RD_takesOperator_80 : decode b_RD_takesOperator 80 = .ok (.ireturn, 1) := by decide +kernel
theorem d_RD_takesOperator_81 : decode b_RD_takesOperator 81 = .ok (.iload_n 3, 1) := by decide +kernel
theorem d_RD_takesOperator_82 : decode b_RD_takesOperator 82 = .ok (.bipush 123, 2) := by decide +kernel
theorem d_RD_takesOperator_84 : decode b_RD_takesOperator 84 = .ok (.if_icmp .ne 15, 3) := by decide +kernel
theorem d_RD_takesOperator_87 : decode b_RD_takesOperator 87 = .ok (.aload_n 0, 1) := by decide +kernel
theorem d_RD_takesOperator_88 : decode b_RD_takesOperator 88 = .ok (.aload_n 0, 1) := by decide +kernel
theorem d_RD_takesOperator_89 : decode b_RD_takesOperator 89 = .ok (.getfield 42, 3) := by decide +kernel
theorem d_RD_takesOperator_92 : decode b_RD_takesOperator 92 = .ok (.iconst 2, 1) := by decide +kernel
theorem d_RD_takesOperator_93 : decode b_RD_takesOperator 93 = .ok (.invokevirtual 45, 3) := by decide +kernel
theorem d_RD_takesOperator_96 : decode b_RD_takesOperator 96 = .ok (.goto 8, 3) := by decide +kernel
theorem d_RD_takesOperator_99 : decode b_RD_takesOperator 99 = .ok (.aload_n 0, 1) := by decide +kernel
theorem d_RD_takesOperator_100 : decode b_RD_takesOperator 100 = .ok (.iconst 2, 1) := by decide +kernel
theorem d_RD_takesOperator_101 : decode b_RD_takesOperator 101 = .ok (.invokevirtual 55, 3) := by decide +kernel
theorem d_RD_takesOperator_104 : decode b_RD_takesOperator 104 = .ok (.ireturn, 1) := by decide +kernel
theorem d_RD_endsOperand_0 : decode b_RD_endsOperand 0 = .ok (.aload_n 0, 1) := by decide +kernel
theorem d_RD_endsOperand_1 : decode b_RD_endsOperand 1 = .ok (.getfield 20, 3) := by decide +kernel
theorem d_RD_endsOperand_4 : decode b_RD_endsOperand 4 = .ok (.ifCond .le 27, 3) := by decide +kernel
theorem d_RD_endsOperand_7 : decode b_RD_endsOperand 7 = .ok (.aload_n 0, 1) := by decide +kernel
theorem d_RD_endsOperand_8 : decode b_RD_endsOperand 8 = .ok (.aload_n 1, 1) := by decide +kernel
theorem d_RD_endsOperand_9 : decode b_RD_endsOperand 9 = .ok (.invokevirtual 118, 3) := by decide +kernel
theorem d_RD_endsOperand_12 : decode b_RD_endsOperand 12 = .ok (.invokestatic 106, 3) := by decide +kernel
theorem d_RD_endsOperand_15 : decode b_RD_endsOperand 15 = .ok (.ifCond .eq 16, 3) := by decide +kernel
theorem d_RD_endsOperand_18 : decode b_RD_endsOperand 18 = .ok (.aload_n 0, 1) := by decide +kernel
theorem d_RD_endsOperand_19 : decode b_RD_endsOperand 19 = .ok (.dup, 1) := by decide +kernel
theorem d_RD_endsOperand_20 : decode b_RD_endsOperand 20 = .ok (.getfield 20, 3) := by decide +kernel
theorem d_RD_endsOperand_23 : decode b_RD_endsOperand 23 = .ok (.iconst 1, 1) := by decide +kernel
theorem d_RD_endsOperand_24 : decode b_RD_endsOperand 24 = .ok (.isub, 1) := by decide +kernel
theorem d_RD_endsOperand_25 : decode b_RD_endsOperand 25 = .ok (.putfield 20, 3) := by decide +kernel
theorem d_RD_endsOperand_28 : decode b_RD_endsOperand 28 = .ok (.goto (-28), 3) := by decide +kernel
theorem d_RD_endsOperand_31 : decode b_RD_endsOperand 31 = .ok (.aload_n 0, 1) := by decide +kernel
theorem d_RD_endsOperand_32 : decode b_RD_endsOperand 32 = .ok (.iload_n 2, 1) := by decide +kernel
theorem d_RD_endsOperand_33 : decode b_RD_endsOperand 33 = .ok (.invokevirtual 55, 3) := by decide +kernel
theorem d_RD_endsOperand_36 : decode b_RD_endsOperand 36 = .ok (.ireturn, 1) := by decide +kernel
theorem d_RD_lastOpen_0 : decode b_RD_lastOpen 0 = .ok (.aload_n 0, 1) := by decide +kernel
theorem d_RD_lastOpen_1 : decode b_RD_lastOpen 1 = .ok (.getfield 20, 3) := by decide +kernel
theorem d_RD_lastOpen_4 : decode b_RD_lastOpen 4 = .ok (.ifCond .le 21, 3) := by decide +kernel
theorem d_RD_lastOpen_7 : decode b_RD_lastOpen 7 = .ok (.aload_n 1, 1) := by decide +kernel
theorem d_RD_lastOpen_8 : decode b_RD_lastOpen 8 = .ok (.aload_n 0, 1) := by decide +kernel
theorem d_RD_lastOpen_9 : decode b_RD_lastOpen 9 = .ok (.getfield 9, 3) := by decide +kernel
theorem d_RD_lastOpen_12 : decode b_RD_lastOpen 12 = .ok (.aload_n 0, 1) := by decide +kernel
theorem d_RD_lastOpen_13 : decode b_RD_lastOpen 13 = .ok (.getfield 20, 3) := by decide +kernel
theorem d_RD_lastOpen_16 : decode b_RD_lastOpen 16 = .ok (.iconst 1, 1) := by decide +kernel
theorem d_RD_lastOpen_17 : decode b_RD_lastOpen 17 = .ok (.isub, 1) := by decide +kernel
theorem d_RD_lastOpen_18 : decode b_RD_lastOpen 18 = .ok (.iaload, 1) := by decide +kernel
theorem d_RD_lastOpen_19 : decode b_RD_lastOpen 19 = .ok (.invokevirtual 35, 3) := by decide +kernel
theorem d_RD_lastOpen_22 : decode b_RD_lastOpen 22 = .ok (.goto 4, 3) := by decide +kernel
theorem d_RD_lastOpen_25 : decode b_RD_lastOpen 25 = .ok (.iconst 0, 1) := by decide +kernel
theorem d_RD_lastOpen_26 : decode b_RD_lastOpen 26 = .ok (.ireturn, 1) := by decide +kernel
theorem d_RD_opens_0 : decode b_RD_opens 0 = .ok (.aload_n 0, 1) := by decide +kernel
theorem d_RD_opens_1 : decode b_RD_opens 1 = .ok (.getfield 20, 3) := by decide +kernel
theorem d_RD_opens_4 : decode b_RD_opens 4 = .ok (.bipush 6, 2) := by decide +kernel
theorem d_RD_opens_6 : decode b_RD_opens 6 = .ok (.if_icmp .lt 5, 3) := by decide +kernel
theorem d_RD_opens_9 : decode b_RD_opens 9 = .ok (.iconst 0, 1) := by decide +kernel
theorem d_RD_opens_10 : decode b_RD_opens 10 = .ok (.ireturn, 1) := by decide +kernel
theorem d_RD_opens_11 : decode b_RD_opens 11 = .ok (.aload_n 0, 1) := by decide +kernel
theorem d_RD_opens_12 : decode b_RD_opens 12 = .ok (.getfield 9, 3) := by decide +kernel
theorem d_RD_opens_15 : decode b_RD_opens 15 = .ok (.aload_n 0, 1) := by decide +kernel
theorem d_RD_opens_16 : decode b_RD_opens 16 = .ok (.getfield 20, 3) := by decide +kernel
theorem d_RD_opens_19 : decode b_RD_opens 19 = .ok (.iload_n 1, 1) := by decide +kernel
theorem d_RD_opens_20 : decode b_RD_opens 20 = .ok (.iastore, 1) := by decide +kernel
theorem d_RD_opens_21 : decode b_RD_opens 21 = .ok (.aload_n 0, 1) := by decide +kernel
theorem d_RD_opens_22 : decode b_RD_opens 22 = .ok (.dup, 1) := by decide +kernel
theorem d_RD_opens_23 : decode b_RD_opens 23 = .ok (.getfield 20, 3) := by decide +kernel
theorem d_RD_opens_26 : decode b_RD_opens 26 = .ok (.iconst 1, 1) := by decide +kernel
theorem d_RD_opens_27 : decode b_RD_opens 27 = .ok (.iadd, 1) := by decide +kernel
theorem d_RD_opens_28 : decode b_RD_opens 28 = .ok (.putfield 20, 3) := by decide +kernel
theorem d_RD_opens_31 : decode b_RD_opens 31 = .ok (.aload_n 0, 1) := by decide +kernel
theorem d_RD_opens_32 : decode b_RD_opens 32 = .ok (.iload_n 2, 1) := by decide +kernel
theorem d_RD_opens_33 : decode b_RD_opens 33 = .ok (.invokevirtual 55, 3) := by decide +kernel
theorem d_RD_opens_36 : decode b_RD_opens 36 = .ok (.ireturn, 1) := by decide +kernel
theorem d_RD_begins_0 : decode b_RD_begins 0 = .ok (.aload_n 0, 1) := by decide +kernel
theorem d_RD_begins_1 : decode b_RD_begins 1 = .ok (.iload_n 1, 1) := by decide +kernel
theorem d_RD_begins_2 : decode b_RD_begins 2 = .ok (.putfield 42, 3) := by decide +kernel
theorem d_RD_begins_5 : decode b_RD_begins 5 = .ok (.aload_n 0, 1) := by decide +kernel
theorem d_RD_begins_6 : decode b_RD_begins 6 = .ok (.iload_n 2, 1) := by decide +kernel
theorem d_RD_begins_7 : decode b_RD_begins 7 = .ok (.invokevirtual 55, 3) := by decide +kernel
theorem d_RD_begins_10 : decode b_RD_begins 10 = .ok (.ireturn, 1) := by decide +kernel
theorem d_RD_expects_0 : decode b_RD_expects 0 = .ok (.aload_n 0, 1) := by decide +kernel
theorem d_RD_expects_1 : decode b_RD_expects 1 = .ok (.iload_n 1, 1) := by decide +kernel
theorem d_RD_expects_2 : decode b_RD_expects 2 = .ok (.putfield 24, 3) := by decide +kernel
theorem d_RD_expects_5 : decode b_RD_expects 5 = .ok (.iconst 1, 1) := by decide +kernel
theorem d_RD_expects_6 : decode b_RD_expects 6 = .ok (.ireturn, 1) := by decide +kernel
theorem d_JI_bitCount_0 : decode b_JI_bitCount 0 = .ok (.iload_n 0, 1) := by decide +kernel
theorem d_JI_bitCount_1 : decode b_JI_bitCount 1 = .ok (.iload_n 0, 1) := by decide +kernel
theorem d_JI_bitCount_2 : decode b_JI_bitCount 2 = .ok (.iconst 1, 1) := by decide +kernel
theorem d_JI_bitCount_3 : decode b_JI_bitCount 3 = .ok (.iushr, 1) := by decide +kernel
theorem d_JI_bitCount_4 : decode b_JI_bitCount 4 = .ok (.ldc_w 265, 3) := by decide +kernel
theorem d_JI_bitCount_7 : decode b_JI_bitCount 7 = .ok (.iand, 1) := by decide +kernel
theorem d_JI_bitCount_8 : decode b_JI_bitCount 8 = .ok (.isub, 1) := by decide +kernel
theorem d_JI_bitCount_9 : decode b_JI_bitCount 9 = .ok (.istore_n 0, 1) := by decide +kernel
theorem d_JI_bitCount_10 : decode b_JI_bitCount 10 = .ok (.iload_n 0, 1) := by decide +kernel
theorem d_JI_bitCount_11 : decode b_JI_bitCount 11 = .ok (.ldc_w 266, 3) := by decide +kernel
theorem d_JI_bitCount_14 : decode b_JI_bitCount 14 = .ok (.iand, 1) := by decide +kernel
theorem d_JI_bitCount_15 : decode b_JI_bitCount 15 = .ok (.iload_n 0, 1) := by decide +kernel
theorem d_JI_bitCount_16 : decode b_JI_bitCount 16 = .ok (.iconst 2, 1) := by decide +kernel
theorem d_JI_bitCount_17 : decode b_JI_bitCount 17 = .ok (.iushr, 1) := by decide +kernel
theorem d_JI_bitCount_18 : decode b_JI_bitCount 18 = .ok (.ldc_w 266, 3) := by decide +kernel
theorem d_JI_bitCount_21 : decode b_JI_bitCount 21 = .ok (.iand, 1) := by decide +kernel
theorem d_JI_bitCount_22 : decode b_JI_bitCount 22 = .ok (.iadd, 1) := by decide +kernel
theorem d_JI_bitCount_23 : decode b_JI_bitCount 23 = .ok (.istore_n 0, 1) := by decide +kernel
theorem d_JI_bitCount_24 : decode b_JI_bitCount 24 = .ok (.iload_n 0, 1) := by decide +kernel
theorem d_JI_bitCount_25 : decode b_JI_bitCount 25 = .ok (.iload_n 0, 1) := by decide +kernel
theorem d_JI_bitCount_26 : decode b_JI_bitCount 26 = .ok (.iconst 4, 1) := by decide +kernel
theorem d_JI_bitCount_27 : decode b_JI_bitCount 27 = .ok (.iushr, 1) := by decide +kernel
theorem d_JI_bitCount_28 : decode b_JI_bitCount 28 = .ok (.iadd, 1) := by decide +kernel
theorem d_JI_bitCount_29 : decode b_JI_bitCount 29 = .ok (.ldc_w 267, 3) := by decide +kernel
theorem d_JI_bitCount_32 : decode b_JI_bitCount 32 = .ok (.iand, 1) := by decide +kernel
theorem d_JI_bitCount_33 : decode b_JI_bitCount 33 = .ok (.istore_n 0, 1) := by decide +kernel
theorem d_JI_bitCount_34 : decode b_JI_bitCount 34 = .ok (.iload_n 0, 1) := by decide +kernel
theorem d_JI_bitCount_35 : decode b_JI_bitCount 35 = .ok (.iload_n 0, 1) := by decide +kernel
theorem d_JI_bitCount_36 : decode b_JI_bitCount 36 = .ok (.bipush 8, 2) := by decide +kernel
theorem d_JI_bitCount_38 : decode b_JI_bitCount 38 = .ok (.iushr, 1) := by decide +kernel
theorem d_JI_bitCount_39 : decode b_JI_bitCount 39 = .ok (.iadd, 1) := by decide +kernel
theorem d_JI_bitCount_40 : decode b_JI_bitCount 40 = .ok (.istore_n 0, 1) := by decide +kernel
theorem d_JI_bitCount_41 : decode b_JI_bitCount 41 = .ok (.iload_n 0, 1) := by decide +kernel
theorem d_JI_bitCount_42 : decode b_JI_bitCount 42 = .ok (.iload_n 0, 1) := by decide +kernel
theorem d_JI_bitCount_43 : decode b_JI_bitCount 43 = .ok (.bipush 16, 2) := by decide +kernel
theorem d_JI_bitCount_45 : decode b_JI_bitCount 45 = .ok (.iushr, 1) := by decide +kernel
theorem d_JI_bitCount_46 : decode b_JI_bitCount 46 = .ok (.iadd, 1) := by decide +kernel
theorem d_JI_bitCount_47 : decode b_JI_bitCount 47 = .ok (.istore_n 0, 1) := by decide +kernel
theorem d_JI_bitCount_48 : decode b_JI_bitCount 48 = .ok (.iload_n 0, 1) := by decide +kernel
theorem d_JI_bitCount_49 : decode b_JI_bitCount 49 = .ok (.bipush 63, 2) := by decide +kernel
theorem d_JI_bitCount_51 : decode b_JI_bitCount 51 = .ok (.iand, 1) := by decide +kernel
theorem d_JI_bitCount_52 : decode b_JI_bitCount 52 = .ok (.ireturn, 1) := by decide +kernel
