theorem d_GS_init_0 : decode b_GS_init 0 = .ok (.aload_n 0, 1) := by decide +kernel
theorem d_GS_init_1 : decode b_GS_init 1 = .ok (.invokespecial 1, 3) := by decide +kernel
theorem d_GS_init_4 : decode b_GS_init 4 = .ok (.aload_n 0, 1) := by decide +kernel
theorem d_GS_init_5 : decode b_GS_init 5 = .ok (.iconst 3, 1) := by decide +kernel
theorem d_GS_init_6 : decode b_GS_init 6 = .ok (.anewarray 9, 3) := by decide +kernel
theorem d_GS_init_9 : decode b_GS_init 9 = .ok (.putfield 11, 3) := by decide +kernel
theorem d_GS_init_12 : decode b_GS_init 12 = .ok (.iconst 0, 1) := by decide +kernel
theorem d_GS_init_13 : decode b_GS_init 13 = .ok (.istore_n 1, 1) := by decide +kernel
theorem d_GS_init_14 : decode b_GS_init 14 = .ok (.iload_n 1, 1) := by decide +kernel
theorem d_GS_init_15 : decode b_GS_init 15 = .ok (.iconst 3, 1) := by decide +kernel
theorem d_GS_init_16 : decode b_GS_init 16 = .ok (.if_icmp .ge 22, 3) := by decide +kernel
theorem d_GS_init_19 : decode b_GS_init 19 = .ok (.aload_n 0, 1) := by decide +kernel
theorem d_GS_init_20 : decode b_GS_init 20 = .ok (.getfield 11, 3) := by decide +kernel
theorem d_GS_init_23 : decode b_GS_init 23 = .ok (.iload_n 1, 1) := by decide +kernel
theorem d_GS_init_24 : decode b_GS_init 24 = .ok (.new 9, 3) := by decide +kernel
theorem d_GS_init_27 : decode b_GS_init 27 = .ok (.dup, 1) := by decide +kernel
theorem d_GS_init_28 : decode b_GS_init 28 = .ok (.invokespecial 15, 3) := by decide +kernel
theorem d_GS_init_31 : decode b_GS_init 31 = .ok (.aastore, 1) := by decide +kernel
theorem d_GS_init_32 : decode b_GS_init 32 = .ok (.iinc 1 1, 3) := by decide +kernel
theorem d_GS_init_35 : decode b_GS_init 35 = .ok (.goto (-21), 3) := by decide +kernel
theorem d_GS_init_38 : decode b_GS_init 38 = .ok (.aload_n 0, 1) := by decide +kernel
theorem d_GS_init_39 : decode b_GS_init 39 = .ok (.new 16, 3) := by decide +kernel
theorem d_GS_init_42 : decode b_GS_init 42 = .ok (.dup, 1) := by decide +kernel
theorem d_GS_init_43 : decode b_GS_init 43 = .ok (.invokespecial 18, 3) := by decide +kernel
theorem d_GS_init_46 : decode b_GS_init 46 = .ok (.putfield 19, 3) := by decide +kernel
theorem d_GS_init_49 : decode b_GS_init 49 = .ok (.aload_n 0, 1) := by decide +kernel
theorem d_GS_init_50 : decode b_GS_init 50 = .ok (.new 23, 3) := by decide +kernel
theorem d_GS_init_53 : decode b_GS_init 53 = .ok (.dup, 1) := by decide +kernel
theorem d_GS_init_54 : decode b_GS_init 54 = .ok (.invokespecial 25, 3) := by decide +kernel
theorem d_GS_init_57 : decode b_GS_init 57 = .ok (.putfield 26, 3) := by decide +kernel
theorem d_GS_init_60 : decode b_GS_init 60 = .ok (.aload_n 0, 1) := by decide +kernel
theorem d_GS_init_61 : decode b_GS_init 61 = .ok (.new 30, 3) := by decide +kernel
theorem d_GS_init_64 : decode b_GS_init 64 = .ok (.dup, 1) := by decide +kernel
theorem d_GS_init_65 : decode b_GS_init 65 = .ok (.invokespecial 32, 3) := by decide +kernel
theorem d_GS_init_68 : decode b_GS_init 68 = .ok (.putfield 33, 3) := by decide +kernel
theorem d_GS_init_71 : decode b_GS_init 71 = .ok (.aload_n 0, 1) := by decide +kernel
theorem d_GS_init_72 : decode b_GS_init 72 = .ok (.new 37, 3) := by decide +kernel
theorem d_GS_init_75 : decode b_GS_init 75 = .ok (.dup, 1) := by decide +kernel
theorem d_GS_init_76 : decode b_GS_init 76 = .ok (.invokespecial 39, 3) := by decide +kernel
theorem d_GS_init_79 : decode b_GS_init 79 = .ok (.putfield 40, 3) := by decide +kernel
theorem d_GS_init_82 : decode b_GS_init 82 = .ok (.aload_n 0, 1) := by decide +kernel
theorem d_GS_init_83 : decode b_GS_init 83 = .ok (.iconst 0, 1) := by decide +kernel
theorem d_GS_init_84 : decode b_GS_init 84 = .ok (.putfield 44, 3) := by decide +kernel
theorem d_GS_init_87 : decode b_GS_init 87 = .ok (.return_, 1) := by decide +kernel
theorem d_GS_sign_0 : decode b_GS_sign 0 = .ok (.iload_n 1, 1) := by decide +kernel
theorem d_GS_sign_1 : decode b_GS_sign 1 = .ok (.invokestatic 48, 3) := by decide +kernel
theorem d_GS_sign_4 : decode b_GS_sign 4 = .ok (.ifCond .eq 15, 3) := by decide +kernel
theorem d_GS_sign_7 : decode b_GS_sign 7 = .ok (.iload_n 2, 1) := by decide +kernel
theorem d_GS_sign_8 : decode b_GS_sign 8 = .ok (.bipush 33, 2) := by decide +kernel
theorem d_GS_sign_10 : decode b_GS_sign 10 = .ok (.if_icmp .lt 9, 3) := by decide +kernel
theorem d_GS_sign_13 : decode b_GS_sign 13 = .ok (.iload_n 2, 1) := by decide +kernel
theorem d_GS_sign_14 : decode b_GS_sign 14 = .ok (.bipush 126, 2) := by decide +kernel
theorem d_GS_sign_16 : decode b_GS_sign 16 = .ok (.if_icmp .le 5, 3) := by decide +kernel
theorem d_GS_sign_19 : decode b_GS_sign 19 = .ok (.iconst (-1), 1) := by decide +kernel
theorem d_GS_sign_20 : decode b_GS_sign 20 = .ok (.ireturn, 1) := by decide +kernel
theorem d_GS_sign_21 : decode b_GS_sign 21 = .ok (.aload_n 0, 1) := by decide +kernel
theorem d_GS_sign_22 : decode b_GS_sign 22 = .ok (.getfield 11, 3) := by decide +kernel
theorem d_GS_sign_25 : decode b_GS_sign 25 = .ok (.iload_n 1, 1) := by decide +kernel
theorem d_GS_sign_26 : decode b_GS_sign 26 = .ok (.aaload, 1) := by decide +kernel
theorem d_GS_sign_27 : decode b_GS_sign 27 = .ok (.iload_n 2, 1) := by decide +kernel
theorem d_GS_sign_28 : decode b_GS_sign 28 = .ok (.invokevirtual 52, 3) := by decide +kernel
theorem d_GS_sign_31 : decode b_GS_sign 31 = .ok (.ifCond .ne 5, 3) := by decide +kernel
theorem d_GS_sign_34 : decode b_GS_sign 34 = .ok (.iconst (-1), 1) := by decide +kernel
theorem d_GS_sign_35 : decode b_GS_sign 35 = .ok (.ireturn, 1) := by decide +kernel
theorem d_GS_sign_36 : decode b_GS_sign 36 = .ok (.aload_n 0, 1) := by decide +kernel
theorem d_GS_sign_37 : decode b_GS_sign 37 = .ok (.invokevirtual 55, 3) := by decide +kernel
theorem d_GS_sign_40 : decode b_GS_sign 40 = .ok (.aload_n 0, 1) := by decide +kernel
theorem d_GS_sign_41 : decode b_GS_sign 41 = .ok (.getfield 11, 3) := by decide +kernel
theorem d_GS_sign_44 : decode b_GS_sign 44 = .ok (.iload_n 1, 1) := by decide +kernel
theorem d_GS_sign_45 : decode b_GS_sign 45 = .ok (.aaload, 1) := by decide +kernel
theorem d_GS_sign_46 : decode b_GS_sign 46 = .ok (.invokevirtual 58, 3) := by decide +kernel
theorem d_GS_sign_49 : decode b_GS_sign 49 = .ok (.ireturn, 1) := by decide +kernel
theorem d_GS_clear_0 : decode b_GS_clear 0 = .ok (.iload_n 1, 1) := by decide +kernel
theorem d_GS_clear_1 : decode b_GS_clear 1 = .ok (.invokestatic 48, 3) := by decide +kernel
theorem d_GS_clear_4 : decode b_GS_clear 4 = .ok (.ifCond .ne 5, 3) := by decide +kernel
theorem d_GS_clear_7 : decode b_GS_clear 7 = .ok (.iconst (-1), 1) := by decide +kernel
theorem d_GS_clear_8 : decode b_GS_clear 8 = .ok (.ireturn, 1) := by decide +kernel
theorem d_GS_clear_9 : decode b_GS_clear 9 = .ok (.aload_n 0, 1) := by decide +kernel
theorem d_GS_clear_10 : decode b_GS_clear 10 = .ok (.getfield 11, 3) := by decide +kernel
theorem d_GS_clear_13 : decode b_GS_clear 13 = .ok (.iload_n 1, 1) := by decide +kernel
theorem d_GS_clear_14 : decode b_GS_clear 14 = .ok (.aaload, 1) := by decide +kernel
theorem d_GS_clear_15 : decode b_GS_clear 15 = .ok (.invokevirtual 62, 3) := by decide +kernel
theorem d_GS_clear_18 : decode b_GS_clear 18 = .ok (.aload_n 0, 1) := by decide +kernel
theorem d_GS_clear_19 : decode b_GS_clear 19 = .ok (.invokevirtual 55, 3) := by decide +kernel
theorem d_GS_clear_22 : decode b_GS_clear 22 = .ok (.iconst 0, 1) := by decide +kernel
theorem d_GS_clear_23 : decode b_GS_clear 23 = .ok (.ireturn, 1) := by decide +kernel
theorem d_GS_compile_0 : decode b_GS_compile 0 = .ok (.iload_n 1, 1) := by decide +kernel
theorem d_GS_compile_1 : decode b_GS_compile 1 = .ok (.invokestatic 48, 3) := by decide +kernel
theorem d_GS_compile_4 : decode b_GS_compile 4 = .ok (.ifCond .ne 5, 3) := by decide +kernel
theorem d_GS_compile_7 : decode b_GS_compile 7 = .ok (.iconst (-1), 1) := by decide +kernel
theorem d_GS_compile_8 : decode b_GS_compile 8 = .ok (.ireturn, 1) := by decide +kernel
theorem d_GS_compile_9 : decode b_GS_compile 9 = .ok (.aload_n 0, 1) := by decide +kernel
theorem d_GS_compile_10 : decode b_GS_compile 10 = .ok (.getfield 11, 3) := by decide +kernel
theorem d_GS_compile_13 : decode b_GS_compile 13 = .ok (.iload_n 1, 1) := by decide +kernel
theorem d_GS_compile_14 : decode b_GS_compile 14 = .ok (.aaload, 1) := by decide +kernel
theorem d_GS_compile_15 : decode b_GS_compile 15 = .ok (.astore_n 2, 1) := by decide +kernel
theorem d_GS_compile_16 : decode b_GS_compile 16 = .ok (.aload_n 0, 1) := by decide +kernel
theorem d_GS_compile_17 : decode b_GS_compile 17 = .ok (.getfield 19, 3) := by decide +kernel
theorem d_GS_compile_20 : decode b_GS_compile 20 = .ok (.aload_n 2, 1) := by decide +kernel
theorem d_GS_compile_21 : decode b_GS_compile 21 = .ok (.invokevirtual 65, 3) := by decide +kernel
theorem d_GS_compile_24 : decode b_GS_compile 24 = .ok (.bipush (-2), 2) := by decide +kernel
theorem d_GS_compile_26 : decode b_GS_compile 26 = .ok (.if_icmp .ne 7, 3) := by decide +kernel
theorem d_GS_compile_29 : decode b_GS_compile 29 = .ok (.iconst 1, 1) := by decide +kernel
theorem d_GS_compile_30 : decode b_GS_compile 30 = .ok (.goto 4, 3) := by decide +kernel
theorem d_GS_compile_33 : decode b_GS_compile 33 = .ok (.iconst 0, 1) := by decide +kernel
theorem d_GS_compile_34 : decode b_GS_compile 34 = .ok (.istore_n 3, 1) := by decide +kernel
theorem d_GS_compile_35 : decode b_GS_compile 35 = .ok (.aload_n 2, 1) := by decide +kernel
theorem d_GS_compile_36 : decode b_GS_compile 36 = .ok (.iload_n 3, 1) := by decide +kernel
theorem d_GS_compile_37 : decode b_GS_compile 37 = .ok (.ifCond .eq 14, 3) := by decide +kernel
theorem d_GS_compile_40 : decode b_GS_compile 40 = .ok (.aload_n 2, 1) := by decide +kernel
theorem d_GS_compile_41 : decode b_GS_compile 41 = .ok (.invokevirtual 69, 3) := by decide +kernel
theorem d_GS_compile_44 : decode b_GS_compile 44 = .ok (.ifCond .ne 7, 3) := by decide +kernel
theorem d_GS_compile_47 : decode b_GS_compile 47 = .ok (.iconst 1, 1) := by decide +kernel
theorem d_GS_compile_48 : decode b_GS_compile 48 = .ok (.goto 4, 3) := by decide +kernel
theorem d_GS_compile_51 : decode b_GS_compile 51 = .ok (.iconst 0, 1) := by decide +kernel
theorem d_GS_compile_52 : decode b_GS_compile 52 = .ok (.invokevirtual 73, 3) := by decide +kernel
theorem d_GS_compile_55 : decode b_GS_compile 55 = .ok (.aload_n 0, 1) := by decide +kernel
theorem d_GS_compile_56 : decode b_GS_compile 56 = .ok (.invokevirtual 55, 3) := by decide +kernel
theorem d_GS_compile_59 : decode b_GS_compile 59 = .ok (.iload_n 3, 1) := by decide +kernel
theorem d_GS_compile_60 : decode b_GS_compile 60 = .ok (.ifCond .ne 6, 3) := by decide +kernel
theorem d_GS_compile_63 : decode b_GS_compile 63 = .ok (.bipush (-2), 2) := by decide +kernel
theorem d_GS_compile_65 : decode b_GS_compile 65 = .ok (.ireturn, 1) := by decide +kernel
theorem d_GS_compile_66 : decode b_GS_compile 66 = .ok (.aload_n 2, 1) := by decide +kernel
theorem d_GS_compile_67 : decode b_GS_compile 67 = .ok (.invokevirtual 69, 3) := by decide +kernel
theorem d_GS_compile_70 : decode b_GS_compile 70 = .ok (.ifCond .eq 8, 3) := by decide +kernel
theorem d_GS_compile_73 : decode b_GS_compile 73 = .ok (.bipush (-3), 2) := by decide +kernel
theorem d_GS_compile_75 : decode b_GS_compile 75 = .ok (.goto 10, 3) := by decide +kernel
theorem d_GS_compile_78 : decode b_GS_compile 78 = .ok (.aload_n 2, 1) := by decide +kernel
theorem d_GS_compile_79 : decode b_GS_compile 79 = .ok (.invokevirtual 77, 3) := by decide +kernel
theorem d_GS_compile_82 : decode b_GS_compile 82 = .ok (.invokestatic 80, 3) := by decide +kernel
theorem d_GS_compile_85 : decode b_GS_compile 85 = .ok (.ireturn, 1) := by decide +kernel
theorem d_GS_fault_0 : decode b_GS_fault 0 = .ok (.iload_n 1, 1) := by decide +kernel
theorem d_GS_fault_1 : decode b_GS_fault 1 = .ok (.invokestatic 48, 3) := by decide +kernel
theorem d_GS_fault_4 : decode b_GS_fault 4 = .ok (.ifCond .eq 19, 3) := by decide +kernel
theorem d_GS_fault_7 : decode b_GS_fault 7 = .ok (.aload_n 0, 1) := by decide +kernel
theorem d_GS_fault_8 : decode b_GS_fault 8 = .ok (.getfield 19, 3) := by decide +kernel
theorem d_GS_fault_11 : decode b_GS_fault 11 = .ok (.aload_n 0, 1) := by decide +kernel
theorem d_GS_fault_12 : decode b_GS_fault 12 = .ok (.getfield 11, 3) := by decide +kernel
theorem d_GS_fault_15 : decode b_GS_fault 15 = .ok (.iload_n 1, 1) := by decide +kernel
theorem d_GS_fault_16 : decode b_GS_fault 16 = .ok (.aaload, 1) := by decide +kernel
theorem d_GS_fault_17 : decode b_GS_fault 17 = .ok (.invokevirtual 65, 3) := by decide +kernel
theorem d_GS_fault_20 : decode b_GS_fault 20 = .ok (.goto 4, 3) := by decide +kernel
theorem d_GS_fault_23 : decode b_GS_fault 23 = .ok (.iconst (-1), 1) := by decide +kernel
theorem d_GS_fault_24 : decode b_GS_fault 24 = .ok (.ireturn, 1) := by decide +kernel
theorem d_GS_link_0 : decode b_GS_link 0 = .ok (.iconst 0, 1) := by decide +kernel
theorem d_GS_link_1 : decode b_GS_link 1 = .ok (.istore_n 1, 1) := by decide +kernel
theorem d_GS_link_2 : decode b_GS_link 2 = .ok (.iload_n 1, 1) := by decide +kernel
theorem d_GS_link_3 : decode b_GS_link 3 = .ok (.iconst 3, 1) := by decide +kernel
theorem d_GS_link_4 : decode b_GS_link 4 = .ok (.if_icmp .ge 23, 3) := by decide +kernel
theorem d_GS_link_7 : decode b_GS_link 7 = .ok (.aload_n 0, 1) := by decide +kernel
theorem d_GS_link_8 : decode b_GS_link 8 = .ok (.getfield 11, 3) := by decide +kernel
theorem d_GS_link_11 : decode b_GS_link 11 = .ok (.iload_n 1, 1) := by decide +kernel
theorem d_GS_link_12 : decode b_GS_link 12 = .ok (.aaload, 1) := by decide +kernel
theorem d_GS_link_13 : decode b_GS_link 13 = .ok (.invokevirtual 86, 3) := by decide +kernel
theorem d_GS_link_16 : decode b_GS_link 16 = .ok (.ifCond .ne 5, 3) := by decide +kernel
theorem d_GS_link_19 : decode b_GS_link 19 = .ok (.iconst (-1), 1) := by decide +kernel
theorem d_GS_link_20 : decode b_GS_link 20 = .ok (.ireturn, 1) := by decide +kernel
theorem d_GS_link_21 : decode b_GS_link 21 = .ok (.iinc 1 1, 3) := by decide +kernel
theorem d_GS_link_24 : decode b_GS_link 24 = .ok (.goto (-22), 3) := by decide +kernel
theorem d_GS_link_27 : decode b_GS_link 27 = .ok (.aload_n 0, 1) := by decide +kernel
theorem d_GS_link_28 : decode b_GS_link 28 = .ok (.invokevirtual 55, 3) := by decide +kernel
theorem d_GS_link_31 : decode b_GS_link 31 = .ok (.aload_n 0, 1) := by decide +kernel
theorem d_GS_link_32 : decode b_GS_link 32 = .ok (.getfield 26, 3) := by decide +kernel
theorem d_GS_link_35 : decode b_GS_link 35 = .ok (.aload_n 0, 1) := by decide +kernel
theorem d_GS_link_36 : decode b_GS_link 36 = .ok (.getfield 11, 3) := by decide +kernel
theorem d_GS_link_39 : decode b_GS_link 39 = .ok (.invokevirtual 89, 3) := by decide +kernel
theorem d_GS_link_42 : decode b_GS_link 42 = .ok (.istore_n 1, 1) := by decide +kernel
theorem d_GS_link_43 : decode b_GS_link 43 = .ok (.aload_n 0, 1) := by decide +kernel
theorem d_GS_link_44 : decode b_GS_link 44 = .ok (.iload_n 1, 1) := by decide +kernel
theorem d_GS_link_45 : decode b_GS_link 45 = .ok (.ifCond .lt 7, 3) := by decide +kernel
theorem d_GS_link_48 : decode b_GS_link 48 = .ok (.iconst 1, 1) := by decide +kernel
theorem d_GS_link_49 : decode b_GS_link 49 = .ok (.goto 4, 3) := by decide +kernel
theorem d_GS_link_52 : decode b_GS_link 52 = .ok (.iconst 0, 1) := by decide +kernel
theorem d_GS_link_53 : decode b_GS_link 53 = .ok (.putfield 44, 3) := by decide +kernel
theorem d_GS_link_56 : decode b_GS_link 56 = .ok (.iload_n 1, 1) := by decide +kernel
theorem d_GS_link_57 : decode b_GS_link 57 = .ok (.ireturn, 1) := by decide +kernel
theorem d_GS_start_0 : decode b_GS_start 0 = .ok (.aload_n 0, 1) := by decide +kernel
theorem d_GS_start_1 : decode b_GS_start 1 = .ok (.getfield 44, 3) := by decide +kernel
theorem d_GS_start_4 : decode b_GS_start 4 = .ok (.ifCond .eq 13, 3) := by decide +kernel
theorem d_GS_start_7 : decode b_GS_start 7 = .ok (.aload_n 0, 1) := by decide +kernel
theorem d_GS_start_8 : decode b_GS_start 8 = .ok (.getfield 40, 3) := by decide +kernel
theorem d_GS_start_11 : decode b_GS_start 11 = .ok (.invokevirtual 93, 3) := by decide +kernel
theorem d_GS_start_14 : decode b_GS_start 14 = .ok (.ifCond .eq 5, 3) := by decide +kernel
theorem d_GS_start_17 : decode b_GS_start 17 = .ok (.iconst (-1), 1) := by decide +kernel
theorem d_GS_start_18 : decode b_GS_start 18 = .ok (.ireturn, 1) := by decide +kernel
theorem d_GS_start_19 : decode b_GS_start 19 = .ok (.aload_n 0, 1) := by decide +kernel
theorem d_GS_start_20 : decode b_GS_start 20 = .ok (.getfield 40, 3) := by decide +kernel
theorem d_GS_start_23 : decode b_GS_start 23 = .ok (.aload_n 0, 1) := by decide +kernel
theorem d_GS_start_24 : decode b_GS_start 24 = .ok (.getfield 26, 3) := by decide +kernel
theorem d_GS_start_27 : decode b_GS_start 27 = .ok (.invokevirtual 96, 3) := by decide +kernel
theorem d_GS_start_30 : decode b_GS_start 30 = .ok (.aload_n 0, 1) := by decide +kernel
theorem d_GS_start_31 : decode b_GS_start 31 = .ok (.getfield 40, 3) := by decide +kernel
theorem d_GS_start_34 : decode b_GS_start 34 = .ok (.invokevirtual 93, 3) := by decide +kernel
theorem d_GS_start_37 : decode b_GS_start 37 = .ok (.ifCond .eq 7, 3) := by decide +kernel
theorem d_GS_start_40 : decode b_GS_start 40 = .ok (.iconst 1, 1) := by decide +kernel
theorem d_GS_start_41 : decode b_GS_start 41 = .ok (.goto 4, 3) := by decide +kernel
theorem d_GS_start_44 : decode b_GS_start 44 = .ok (.iconst 0, 1) := by decide +kernel
theorem d_GS_start_45 : decode b_GS_start 45 = .ok (.ireturn, 1) := by decide +kernel
theorem d_GS_run_0 : decode b_GS_run 0 = .ok (.iload_n 1, 1) := by decide +kernel
theorem d_GS_run_1 : decode b_GS_run 1 = .ok (.iconst 1, 1) := by decide +kernel
theorem d_GS_run_2 : decode b_GS_run 2 = .ok (.if_icmp .lt 18, 3) := by decide +kernel
theorem d_GS_run_5 : decode b_GS_run 5 = .ok (.iload_n 1, 1) := by decide +kernel
theorem d_GS_run_6 : decode b_GS_run 6 = .ok (.iconst 4, 1) := by decide +kernel
theorem d_GS_run_7 : decode b_GS_run 7 = .ok (.if_icmp .gt 13, 3) := by decide +kernel
theorem d_GS_run_10 : decode b_GS_run 10 = .ok (.aload_n 0, 1) := by decide +kernel
theorem d_GS_run_11 : decode b_GS_run 11 = .ok (.getfield 40, 3) := by decide +kernel
theorem d_GS_run_14 : decode b_GS_run 14 = .ok (.invokevirtual 93, 3) := by decide +kernel
theorem d_GS_run_17 : decode b_GS_run 17 = .ok (.ifCond .ne 5, 3) := by decide +kernel
theorem d_GS_run_20 : decode b_GS_run 20 = .ok (.iconst (-1), 1) := by decide +kernel
theorem d_GS_run_21 : decode b_GS_run 21 = .ok (.ireturn, 1) := by decide +kernel
theorem d_GS_run_22 : decode b_GS_run 22 = .ok (.iconst 0, 1) := by decide +kernel
theorem d_GS_run_23 : decode b_GS_run 23 = .ok (.istore_n 2, 1) := by decide +kernel
theorem d_GS_run_24 : decode b_GS_run 24 = .ok (.iload_n 2, 1) := by decide +kernel
theorem d_GS_run_25 : decode b_GS_run 25 = .ok (.iload_n 1, 1) := by decide +kernel
theorem d_GS_run_26 : decode b_GS_run 26 = .ok (.if_icmp .ge 34, 3) := by decide +kernel
theorem d_GS_run_29 : decode b_GS_run 29 = .ok (.aload_n 0, 1) := by decide +kernel
theorem d_GS_run_30 : decode b_GS_run 30 = .ok (.getfield 40, 3) := by decide +kernel
theorem d_GS_run_33 : decode b_GS_run 33 = .ok (.invokevirtual 93, 3) := by decide +kernel
theorem d_GS_run_36 : decode b_GS_run 36 = .ok (.ifCond .eq 24, 3) := by decide +kernel
theorem d_GS_run_39 : decode b_GS_run 39 = .ok (.aload_n 0, 1) := by decide +kernel
theorem d_GS_run_40 : decode b_GS_run 40 = .ok (.getfield 40, 3) := by decide +kernel
theorem d_GS_run_43 : decode b_GS_run 43 = .ok (.aload_n 0, 1) := by decide +kernel
theorem d_GS_run_44 : decode b_GS_run 44 = .ok (.getfield 26, 3) := by decide +kernel
theorem d_GS_run_47 : decode b_GS_run 47 = .ok (.aload_n 0, 1) := by decide +kernel
theorem d_GS_run_48 : decode b_GS_run 48 = .ok (.getfield 33, 3) := by decide +kernel
theorem d_GS_run_51 : decode b_GS_run 51 = .ok (.invokevirtual 100, 3) := by decide +kernel
theorem d_GS_run_54 : decode b_GS_run 54 = .ok (.iinc 2 1, 3) := by decide +kernel
theorem d_GS_run_57 : decode b_GS_run 57 = .ok (.goto (-33), 3) := by decide +kernel
theorem d_GS_run_60 : decode b_GS_run 60 = .ok (.aload_n 0, 1) := by decide +kernel
theorem d_GS_run_61 : decode b_GS_run 61 = .ok (.getfield 40, 3) := by decide +kernel
theorem d_GS_run_64 : decode b_GS_run 64 = .ok (.invokevirtual 93, 3) := by decide +kernel
theorem d_GS_run_67 : decode b_GS_run 67 = .ok (.ifCond .eq 7, 3) := by decide +kernel
theorem d_GS_run_70 : decode b_GS_run 70 = .ok (.iconst 1, 1) := by decide +kernel
theorem d_GS_run_71 : decode b_GS_run 71 = .ok (.goto 4, 3) := by decide +kernel
theorem d_GS_run_74 : decode b_GS_run 74 = .ok (.iconst 0, 1) := by decide +kernel
theorem d_GS_run_75 : decode b_GS_run 75 = .ok (.ireturn, 1) := by decide +kernel
theorem d_GS_stop_0 : decode b_GS_stop 0 = .ok (.aload_n 0, 1) := by decide +kernel
theorem d_GS_stop_1 : decode b_GS_stop 1 = .ok (.getfield 40, 3) := by decide +kernel
theorem d_GS_stop_4 : decode b_GS_stop 4 = .ok (.invokevirtual 93, 3) := by decide +kernel
theorem d_GS_stop_7 : decode b_GS_stop 7 = .ok (.ifCond .ne 5, 3) := by decide +kernel
theorem d_GS_stop_10 : decode b_GS_stop 10 = .ok (.iconst (-1), 1) := by decide +kernel
theorem d_GS_stop_11 : decode b_GS_stop 11 = .ok (.ireturn, 1) := by decide +kernel
theorem d_GS_stop_12 : decode b_GS_stop 12 = .ok (.aload_n 0, 1) := by decide +kernel
theorem d_GS_stop_13 : decode b_GS_stop 13 = .ok (.getfield 40, 3) := by decide +kernel
theorem d_GS_stop_16 : decode b_GS_stop 16 = .ok (.invokevirtual 104, 3) := by decide +kernel
theorem d_GS_stop_19 : decode b_GS_stop 19 = .ok (.iconst 0, 1) := by decide +kernel
theorem d_GS_stop_20 : decode b_GS_stop 20 = .ok (.ireturn, 1) := by decide +kernel
theorem d_GS_set_0 : decode b_GS_set 0 = .ok (.aload_n 0, 1) := by decide +kernel
theorem d_GS_set_1 : decode b_GS_set 1 = .ok (.getfield 33, 3) := by decide +kernel
theorem d_GS_set_4 : decode b_GS_set 4 = .ok (.iload_n 1, 1) := by decide +kernel
theorem d_GS_set_5 : decode b_GS_set 5 = .ok (.iload_n 2, 1) := by decide +kernel
theorem d_GS_set_6 : decode b_GS_set 6 = .ok (.invokevirtual 107, 3) := by decide +kernel
theorem d_GS_set_9 : decode b_GS_set 9 = .ok (.ifCond .eq 7, 3) := by decide +kernel
theorem d_GS_set_12 : decode b_GS_set 12 = .ok (.iconst 0, 1) := by decide +kernel
theorem d_GS_set_13 : decode b_GS_set 13 = .ok (.goto 4, 3) := by decide +kernel
theorem d_GS_set_16 : decode b_GS_set 16 = .ok (.iconst (-1), 1) := by decide +kernel
theorem d_GS_set_17 : decode b_GS_set 17 = .ok (.ireturn, 1) := by decide +kernel
theorem d_GS_get_0 : decode b_GS_get 0 = .ok (.iload_n 1, 1) := by decide +kernel
theorem d_GS_get_1 : decode b_GS_get 1 = .ok (.invokestatic 111, 3) := by decide +kernel
theorem d_GS_get_4 : decode b_GS_get 4 = .ok (.ifCond .eq 15, 3) := by decide +kernel
theorem d_GS_get_7 : decode b_GS_get 7 = .ok (.aload_n 0, 1) := by decide +kernel
theorem d_GS_get_8 : decode b_GS_get 8 = .ok (.getfield 33, 3) := by decide +kernel
theorem d_GS_get_11 : decode b_GS_get 11 = .ok (.iload_n 1, 1) := by decide +kernel
theorem d_GS_get_12 : decode b_GS_get 12 = .ok (.invokevirtual 114, 3) := by decide +kernel
theorem d_GS_get_15 : decode b_GS_get 15 = .ok (.i2l, 1) := by decide +kernel
theorem d_GS_get_16 : decode b_GS_get 16 = .ok (.goto 6, 3) := by decide +kernel
theorem d_GS_get_19 : decode b_GS_get 19 = .ok (.ldc2_w 117, 3) := by decide +kernel
theorem d_GS_get_22 : decode b_GS_get 22 = .ok (.lreturn, 1) := by decide +kernel
theorem d_GS_output_0 : decode b_GS_output 0 = .ok (.aload_n 0, 1) := by decide +kernel
theorem d_GS_output_1 : decode b_GS_output 1 = .ok (.getfield 40, 3) := by decide +kernel
theorem d_GS_output_4 : decode b_GS_output 4 = .ok (.iload_n 1, 1) := by decide +kernel
theorem d_GS_output_5 : decode b_GS_output 5 = .ok (.invokevirtual 119, 3) := by decide +kernel
theorem d_GS_output_8 : decode b_GS_output 8 = .ok (.ifCond .eq 15, 3) := by decide +kernel
theorem d_GS_output_11 : decode b_GS_output 11 = .ok (.aload_n 0, 1) := by decide +kernel
theorem d_GS_output_12 : decode b_GS_output 12 = .ok (.getfield 40, 3) := by decide +kernel
theorem d_GS_output_15 : decode b_GS_output 15 = .ok (.iload_n 1, 1) := by decide +kernel
theorem d_GS_output_16 : decode b_GS_output 16 = .ok (.invokevirtual 122, 3) := by decide +kernel
theorem d_GS_output_19 : decode b_GS_output 19 = .ok (.i2l, 1) := by decide +kernel
theorem d_GS_output_20 : decode b_GS_output 20 = .ok (.goto 6, 3) := by decide +kernel
theorem d_GS_output_23 : decode b_GS_output 23 = .ok (.ldc2_w 117, 3) := by decide +kernel
theorem d_GS_output_26 : decode b_GS_output 26 = .ok (.lreturn, 1) := by decide +kernel
theorem d_GS_at_0 : decode b_GS_at 0 = .ok (.iload_n 1, 1) := by decide +kernel
theorem d_GS_at_1 : decode b_GS_at 1 = .ok (.tableswitch 67 0 3 #[31, 39, 51, 59], 31) := by decide +kernel
theorem d_GS_at_32 : decode b_GS_at 32 = .ok (.aload_n 0, 1) := by decide +kernel
theorem d_GS_at_33 : decode b_GS_at 33 = .ok (.getfield 40, 3) := by decide +kernel
theorem d_GS_at_36 : decode b_GS_at 36 = .ok (.invokevirtual 125, 3) := by decide +kernel
theorem d_GS_at_39 : decode b_GS_at 39 = .ok (.ireturn, 1) := by decide +kernel
theorem d_GS_at_40 : decode b_GS_at 40 = .ok (.aload_n 0, 1) := by decide +kernel
theorem d_GS_at_41 : decode b_GS_at 41 = .ok (.getfield 40, 3) := by decide +kernel
theorem d_GS_at_44 : decode b_GS_at 44 = .ok (.aload_n 0, 1) := by decide +kernel
theorem d_GS_at_45 : decode b_GS_at 45 = .ok (.getfield 26, 3) := by decide +kernel
theorem d_GS_at_48 : decode b_GS_at 48 = .ok (.invokevirtual 128, 3) := by decide +kernel
theorem d_GS_at_51 : decode b_GS_at 51 = .ok (.ireturn, 1) := by decide +kernel
theorem d_GS_at_52 : decode b_GS_at 52 = .ok (.aload_n 0, 1) := by decide +kernel
theorem d_GS_at_53 : decode b_GS_at 53 = .ok (.getfield 40, 3) := by decide +kernel
theorem d_GS_at_56 : decode b_GS_at 56 = .ok (.invokevirtual 132, 3) := by decide +kernel
theorem d_GS_at_59 : decode b_GS_at 59 = .ok (.ireturn, 1) := by decide +kernel
theorem d_GS_at_60 : decode b_GS_at 60 = .ok (.aload_n 0, 1) := by decide +kernel
theorem d_GS_at_61 : decode b_GS_at 61 = .ok (.getfield 40, 3) := by decide +kernel
theorem d_GS_at_64 : decode b_GS_at 64 = .ok (.invokevirtual 135, 3) := by decide +kernel
theorem d_GS_at_67 : decode b_GS_at 67 = .ok (.ireturn, 1) := by decide +kernel
theorem d_GS_at_68 : decode b_GS_at 68 = .ok (.iconst (-1), 1) := by decide +kernel
theorem d_GS_at_69 : decode b_GS_at 69 = .ok (.ireturn, 1) := by decide +kernel
theorem d_GS_operate_0 : decode b_GS_operate 0 = .ok (.iload_n 1, 1) := by decide +kernel
theorem d_GS_operate_1 : decode b_GS_operate 1 = .ok (.ifCond .lt 8, 3) := by decide +kernel
theorem d_GS_operate_4 : decode b_GS_operate 4 = .ok (.iload_n 1, 1) := by decide +kernel
theorem d_GS_operate_5 : decode b_GS_operate 5 = .ok (.iconst 5, 1) := by decide +kernel
theorem d_GS_operate_6 : decode b_GS_operate 6 = .ok (.if_icmp .le 7, 3) := by decide +kernel
theorem d_GS_operate_9 : decode b_GS_operate 9 = .ok (.ldc2_w 117, 3) := by decide +kernel
theorem d_GS_operate_12 : decode b_GS_operate 12 = .ok (.lreturn, 1) := by decide +kernel
theorem d_GS_operate_13 : decode b_GS_operate 13 = .ok (.iload_n 1, 1) := by decide +kernel
theorem d_GS_operate_14 : decode b_GS_operate 14 = .ok (.iload_n 2, 1) := by decide +kernel
theorem d_GS_operate_15 : decode b_GS_operate 15 = .ok (.iload_n 3, 1) := by decide +kernel
theorem d_GS_operate_16 : decode b_GS_operate 16 = .ok (.invokestatic 138, 3) := by decide +kernel
theorem d_GS_operate_19 : decode b_GS_operate 19 = .ok (.i2l, 1) := by decide +kernel
theorem d_GS_operate_20 : decode b_GS_operate 20 = .ok (.lreturn, 1) := by decide +kernel
theorem d_GS_state_0 : decode b_GS_state 0 = .ok (.iload_n 1, 1) := by decide +kernel
theorem d_GS_state_1 : decode b_GS_state 1 = .ok (.invokestatic 48, 3) := by decide +kernel
theorem d_GS_state_4 : decode b_GS_state 4 = .ok (.ifCond .ne 5, 3) := by decide +kernel
theorem d_GS_state_7 : decode b_GS_state 7 = .ok (.iconst (-1), 1) := by decide +kernel
theorem d_GS_state_8 : decode b_GS_state 8 = .ok (.ireturn, 1) := by decide +kernel
theorem d_GS_state_9 : decode b_GS_state 9 = .ok (.iload_n 2, 1) := by decide +kernel
theorem d_GS_state_10 : decode b_GS_state 10 = .ok (.tableswitch 67 0 2 #[26, 36, 54], 26) := by decide +kernel
theorem d_GS_state_36 : decode b_GS_state 36 = .ok (.aload_n 0, 1) := by decide +kernel
theorem d_GS_state_37 : decode b_GS_state 37 = .ok (.getfield 11, 3) := by decide +kernel
theorem d_GS_state_40 : decode b_GS_state 40 = .ok (.iload_n 1, 1) := by decide +kernel
theorem d_GS_state_41 : decode b_GS_state 41 = .ok (.aaload, 1) := by decide +kernel
theorem d_GS_state_42 : decode b_GS_state 42 = .ok (.invokevirtual 58, 3) := by decide +kernel
theorem d_GS_state_45 : decode b_GS_state 45 = .ok (.ireturn, 1) := by decide +kernel
theorem d_GS_state_46 : decode b_GS_state 46 = .ok (.aload_n 0, 1) := by decide +kernel
theorem d_GS_state_47 : decode b_GS_state 47 = .ok (.getfield 11, 3) := by decide +kernel
theorem d_GS_state_50 : decode b_GS_state 50 = .ok (.iload_n 1, 1) := by decide +kernel
theorem d_GS_state_51 : decode b_GS_state 51 = .ok (.aaload, 1) := by decide +kernel
theorem d_GS_state_52 : decode b_GS_state 52 = .ok (.invokevirtual 86, 3) := by decide +kernel
theorem d_GS_state_55 : decode b_GS_state 55 = .ok (.ifCond .eq 7, 3) := by decide +kernel
theorem d_GS_state_58 : decode b_GS_state 58 = .ok (.iconst 1, 1) := by decide +kernel
theorem d_GS_state_59 : decode b_GS_state 59 = .ok (.goto 4, 3) := by decide +kernel
theorem d_GS_state_62 : decode b_GS_state 62 = .ok (.iconst 0, 1) := by decide +kernel
theorem d_GS_state_63 : decode b_GS_state 63 = .ok (.ireturn, 1) := by decide +kernel
theorem d_GS_state_64 : decode b_GS_state 64 = .ok (.aload_n 0, 1) := by decide +kernel
theorem d_GS_state_65 : decode b_GS_state 65 = .ok (.getfield 44, 3) := by decide +kernel
theorem d_GS_state_68 : decode b_GS_state 68 = .ok (.ifCond .eq 7, 3) := by decide +kernel
theorem d_GS_state_71 : decode b_GS_state 71 = .ok (.iconst 1, 1) := by decide +kernel
theorem d_GS_state_72 : decode b_GS_state 72 = .ok (.goto 4, 3) := by decide +kernel
theorem d_GS_state_75 : decode b_GS_state 75 = .ok (.iconst 0, 1) := by decide +kernel
theorem d_GS_state_76 : decode b_GS_state 76 = .ok (.ireturn, 1) := by decide +kernel
theorem d_GS_state_77 : decode b_GS_state 77 = .ok (.iconst (-1), 1) := by decide +kernel
theorem d_GS_state_78 : decode b_GS_state 78 = .ok (.ireturn, 1) := by decide +kernel
theorem d_GS_loosen_0 : decode b_GS_loosen 0 = .ok (.aload_n 0, 1) := by decide +kernel
theorem d_GS_loosen_1 : decode b_GS_loosen 1 = .ok (.iconst 0, 1) := by decide +kernel
theorem d_GS_loosen_2 : decode b_GS_loosen 2 = .ok (.putfield 44, 3) := by decide +kernel
theorem d_GS_loosen_5 : decode b_GS_loosen 5 = .ok (.aload_n 0, 1) := by decide +kernel
theorem d_GS_loosen_6 : decode b_GS_loosen 6 = .ok (.getfield 40, 3) := by decide +kernel
theorem d_GS_loosen_9 : decode b_GS_loosen 9 = .ok (.invokevirtual 104, 3) := by decide +kernel
theorem d_GS_loosen_12 : decode b_GS_loosen 12 = .ok (.return_, 1) := by decide +kernel
theorem d_GS_isModule_0 : decode b_GS_isModule 0 = .ok (.iload_n 0, 1) := by decide +kernel
theorem d_GS_isModule_1 : decode b_GS_isModule 1 = .ok (.ifCond .lt 12, 3) := by decide +kernel
theorem d_GS_isModule_4 : decode b_GS_isModule 4 = .ok (.iload_n 0, 1) := by decide +kernel
theorem d_GS_isModule_5 : decode b_GS_isModule 5 = .ok (.iconst 3, 1) := by decide +kernel
theorem d_GS_isModule_6 : decode b_GS_isModule 6 = .ok (.if_icmp .ge 7, 3) := by decide +kernel
theorem d_GS_isModule_9 : decode b_GS_isModule 9 = .ok (.iconst 1, 1) := by decide +kernel
theorem d_GS_isModule_10 : decode b_GS_isModule 10 = .ok (.goto 4, 3) := by decide +kernel
theorem d_GS_isModule_13 : decode b_GS_isModule 13 = .ok (.iconst 0, 1) := by decide +kernel
theorem d_GS_isModule_14 : decode b_GS_isModule 14 = .ok (.ireturn, 1) := by decide +kernel
theorem d_GS_isVariableNumber_0 : decode b_GS_isVariableNumber 0 = .ok (.iload_n 0, 1) := by decide +kernel
theorem d_GS_isVariableNumber_1 : decode b_GS_isVariableNumber 1 = .ok (.ifCond .lt 13, 3) := by decide +kernel
theorem d_GS_isVariableNumber_4 : decode b_GS_isVariableNumber 4 = .ok (.iload_n 0, 1) := by decide +kernel
theorem d_GS_isVariableNumber_5 : decode b_GS_isVariableNumber 5 = .ok (.bipush 8, 2) := by decide +kernel
theorem d_GS_isVariableNumber_7 : decode b_GS_isVariableNumber 7 = .ok (.if_icmp .ge 7, 3) := by decide +kernel
theorem d_GS_isVariableNumber_10 : decode b_GS_isVariableNumber 10 = .ok (.iconst 1, 1) := by decide +kernel
theorem d_GS_isVariableNumber_11 : decode b_GS_isVariableNumber 11 = .ok (.goto 4, 3) := by decide +kernel
theorem d_GS_isVariableNumber_14 : decode b_GS_isVariableNumber 14 = .ok (.iconst 0, 1) := by decide +kernel
theorem d_GS_isVariableNumber_15 : decode b_GS_isVariableNumber 15 = .ok (.ireturn, 1) := by decide +kernel
theorem d_GS_isLetterNumber_0 : decode b_GS_isLetterNumber 0 = .ok (.iload_n 0, 1) := by decide +kernel
theorem d_GS_isLetterNumber_1 : decode b_GS_isLetterNumber 1 = .ok (.ifCond .lt 13, 3) := by decide +kernel
theorem d_GS_isLetterNumber_4 : decode b_GS_isLetterNumber 4 = .ok (.iload_n 0, 1) := by decide +kernel
theorem d_GS_isLetterNumber_5 : decode b_GS_isLetterNumber 5 = .ok (.bipush 26, 2) := by decide +kernel
theorem d_GS_isLetterNumber_7 : decode b_GS_isLetterNumber 7 = .ok (.if_icmp .ge 7, 3) := by decide +kernel
theorem d_GS_isLetterNumber_10 : decode b_GS_isLetterNumber 10 = .ok (.iconst 1, 1) := by decide +kernel
theorem d_GS_isLetterNumber_11 : decode b_GS_isLetterNumber 11 = .ok (.goto 4, 3) := by decide +kernel
theorem d_GS_isLetterNumber_14 : decode b_GS_isLetterNumber 14 = .ok (.iconst 0, 1) := by decide +kernel
theorem d_GS_isLetterNumber_15 : decode b_GS_isLetterNumber 15 = .ok (.ireturn, 1) := by decide +kernel
theorem d_GS_isLetter_0 : decode b_GS_isLetter 0 = .ok (.iload_n 0, 1) := by decide +kernel
theorem d_GS_isLetter_1 : decode b_GS_isLetter 1 = .ok (.bipush 65, 2) := by decide +kernel
theorem d_GS_isLetter_3 : decode b_GS_isLetter 3 = .ok (.if_icmp .lt 13, 3) := by decide +kernel
theorem d_GS_isLetter_6 : decode b_GS_isLetter 6 = .ok (.iload_n 0, 1) := by decide +kernel
theorem d_GS_isLetter_7 : decode b_GS_isLetter 7 = .ok (.bipush 90, 2) := by decide +kernel
theorem d_GS_isLetter_9 : decode b_GS_isLetter 9 = .ok (.if_icmp .gt 7, 3) := by decide +kernel
theorem d_GS_isLetter_12 : decode b_GS_isLetter 12 = .ok (.iconst 1, 1) := by decide +kernel
theorem d_GS_isLetter_13 : decode b_GS_isLetter 13 = .ok (.goto 4, 3) := by decide +kernel
theorem d_GS_isLetter_16 : decode b_GS_isLetter 16 = .ok (.iconst 0, 1) := by decide +kernel
theorem d_GS_isLetter_17 : decode b_GS_isLetter 17 = .ok (.ireturn, 1) := by decide +kernel
theorem d_GS_isVariable_0 : decode b_GS_isVariable 0 = .ok (.iload_n 0, 1) := by decide +kernel
theorem d_GS_isVariable_1 : decode b_GS_isVariable 1 = .ok (.bipush 97, 2) := by decide +kernel
theorem d_GS_isVariable_3 : decode b_GS_isVariable 3 = .ok (.if_icmp .lt 13, 3) := by decide +kernel
theorem d_GS_isVariable_6 : decode b_GS_isVariable 6 = .ok (.iload_n 0, 1) := by decide +kernel
theorem d_GS_isVariable_7 : decode b_GS_isVariable 7 = .ok (.bipush 104, 2) := by decide +kernel
theorem d_GS_isVariable_9 : decode b_GS_isVariable 9 = .ok (.if_icmp .gt 7, 3) := by decide +kernel
theorem d_GS_isVariable_12 : decode b_GS_isVariable 12 = .ok (.iconst 1, 1) := by decide +kernel
theorem d_GS_isVariable_13 : decode b_GS_isVariable 13 = .ok (.goto 4, 3) := by decide +kernel
theorem d_GS_isVariable_16 : decode b_GS_isVariable 16 = .ok (.iconst 0, 1) := by decide +kernel
theorem d_GS_isVariable_17 : decode b_GS_isVariable 17 = .ok (.ireturn, 1) := by decide +kernel
theorem d_GS_isDigit_0 : decode b_GS_isDigit 0 = .ok (.iload_n 0, 1) := by decide +kernel
theorem d_GS_isDigit_1 : decode b_GS_isDigit 1 = .ok (.bipush 48, 2) := by decide +kernel
theorem d_GS_isDigit_3 : decode b_GS_isDigit 3 = .ok (.if_icmp .lt 13, 3) := by decide +kernel
theorem d_GS_isDigit_6 : decode b_GS_isDigit 6 = .ok (.iload_n 0, 1) := by decide +kernel
theorem d_GS_isDigit_7 : decode b_GS_isDigit 7 = .ok (.bipush 57, 2) := by decide +kernel
theorem d_GS_isDigit_9 : decode b_GS_isDigit 9 = .ok (.if_icmp .gt 7, 3) := by decide +kernel
theorem d_GS_isDigit_12 : decode b_GS_isDigit 12 = .ok (.iconst 1, 1) := by decide +kernel
theorem d_GS_isDigit_13 : decode b_GS_isDigit 13 = .ok (.goto 4, 3) := by decide +kernel
theorem d_GS_isDigit_16 : decode b_GS_isDigit 16 = .ok (.iconst 0, 1) := by decide +kernel
theorem d_GS_isDigit_17 : decode b_GS_isDigit 17 = .ok (.ireturn, 1) := by decide +kernel
theorem d_GS_isPrefix_0 : decode b_GS_isPrefix 0 = .ok (.iload_n 0, 1) := by decide +kernel
theorem d_GS_isPrefix_1 : decode b_GS_isPrefix 1 = .ok (.bipush 126, 2) := by decide +kernel
theorem d_GS_isPrefix_3 : decode b_GS_isPrefix 3 = .ok (.if_icmp .eq 9, 3) := by decide +kernel
theorem d_GS_isPrefix_6 : decode b_GS_isPrefix 6 = .ok (.iload_n 0, 1) := by decide +kernel
theorem d_GS_isPrefix_7 : decode b_GS_isPrefix 7 = .ok (.bipush 45, 2) := by decide +kernel
theorem d_GS_isPrefix_9 : decode b_GS_isPrefix 9 = .ok (.if_icmp .ne 7, 3) := by decide +kernel
theorem d_GS_isPrefix_12 : decode b_GS_isPrefix 12 = .ok (.iconst 1, 1) := by decide +kernel
theorem d_GS_isPrefix_13 : decode b_GS_isPrefix 13 = .ok (.goto 4, 3) := by decide +kernel
theorem d_GS_isPrefix_16 : decode b_GS_isPrefix 16 = .ok (.iconst 0, 1) := by decide +kernel
theorem d_GS_isPrefix_17 : decode b_GS_isPrefix 17 = .ok (.ireturn, 1) := by decide +kernel
theorem d_GS_hasBit_0 : decode b_GS_hasBit 0 = .ok (.iload_n 0, 1) := by decide +kernel
theorem d_GS_hasBit_1 : decode b_GS_hasBit 1 = .ok (.iload_n 1, 1) := by decide +kernel
theorem d_GS_hasBit_2 : decode b_GS_hasBit 2 = .ok (.iushr, 1) := by decide +kernel
theorem d_GS_hasBit_3 : decode b_GS_hasBit 3 = .ok (.iconst 1, 1) := by decide +kernel
theorem d_GS_hasBit_4 : decode b_GS_hasBit 4 = .ok (.iand, 1) := by decide +kernel
theorem d_GS_hasBit_5 : decode b_GS_hasBit 5 = .ok (.ifCond .eq 7, 3) := by decide +kernel
theorem d_GS_hasBit_8 : decode b_GS_hasBit 8 = .ok (.iconst 1, 1) := by decide +kernel
theorem d_GS_hasBit_9 : decode b_GS_hasBit 9 = .ok (.goto 4, 3) := by decide +kernel
theorem d_GS_hasBit_12 : decode b_GS_hasBit 12 = .ok (.iconst 0, 1) := by decide +kernel
theorem d_GS_hasBit_13 : decode b_GS_hasBit 13 = .ok (.ireturn, 1) := by decide +kernel
theorem d_GS_operationOf_0 : decode b_GS_operationOf 0 = .ok (.iload_n 0, 1) := by decide +kernel
theorem d_GS_operationOf_1 : decode b_GS_operationOf 1 = .ok (.lookupswitch 82 #[(38, 71), (43, 67), (45, 69), (60, 77), (61, 79), (94, 75), (124, 73)], 67) := by decide +kernel
theorem d_GS_operationOf_68 : decode b_GS_operationOf 68 = .ok (.iconst 0, 1) := by decide +kernel
theorem d_GS_operationOf_69 : decode b_GS_operationOf 69 = .ok (.ireturn, 1) := by decide +kernel
theorem d_GS_operationOf_70 : decode b_GS_operationOf 70 = .ok (.iconst 1, 1) := by decide +kernel
theorem d_GS_operationOf_71 : decode b_GS_operationOf 71 = .ok (.ireturn, 1) := by decide +kernel
theorem d_GS_operationOf_72 : decode b_GS_operationOf 72 = .ok (.iconst 2, 1) := by decide +kernel
theorem d_GS_operationOf_73 : decode b_GS_operationOf 73 = .ok (.ireturn, 1) := by decide +kernel
theorem d_GS_operationOf_74 : decode b_GS_operationOf 74 = .ok (.iconst 3, 1) := by decide +kernel
theorem d_GS_operationOf_75 : decode b_GS_operationOf 75 = .ok (.ireturn, 1) := by decide +kernel
theorem d_GS_operationOf_76 : decode b_GS_operationOf 76 = .ok (.iconst 4, 1) := by decide +kernel
theorem d_GS_operationOf_77 : decode b_GS_operationOf 77 = .ok (.ireturn, 1) := by decide +kernel
theorem d_GS_operationOf_78 : decode b_GS_operationOf 78 = .ok (.iconst 5, 1) := by decide +kernel
theorem d_GS_operationOf_79 : decode b_GS_operationOf 79 = .ok (.ireturn, 1) := by decide +kernel
theorem d_GS_operationOf_80 : decode b_GS_operationOf 80 = .ok (.bipush 6, 2) := by decide +kernel
theorem d_GS_operationOf_82 : decode b_GS_operationOf 82 = .ok (.ireturn, 1) := by decide +kernel
theorem d_GS_operationOf_83 : decode b_GS_operationOf 83 = .ok (.iconst (-1), 1) := by decide +kernel
theorem d_GS_operationOf_84 : decode b_GS_operationOf 84 = .ok (.ireturn, 1) := by decide +kernel
theorem d_GS_worked_0 : decode b_GS_worked 0 = .ok (.iload_n 0, 1) := by decide +kernel
theorem d_GS_worked_1 : decode b_GS_worked 1 = .ok (.tableswitch 70 0 5 #[39, 43, 47, 51, 55, 59], 39) := by decide +kernel
theorem d_GS_worked_40 : decode b_GS_worked 40 = .ok (.iload_n 1, 1) := by decide +kernel
theorem d_GS_worked_41 : decode b_GS_worked 41 = .ok (.iload_n 2, 1) := by decide +kernel
theorem d_GS_worked_42 : decode b_GS_worked 42 = .ok (.iadd, 1) := by decide +kernel
theorem d_GS_worked_43 : decode b_GS_worked 43 = .ok (.ireturn, 1) := by decide +kernel
theorem d_GS_worked_44 : decode b_GS_worked 44 = .ok (.iload_n 1, 1) := by decide +kernel
theorem d_GS_worked_45 : decode b_GS_worked 45 = .ok (.iload_n 2, 1) := by decide +kernel
theorem d_GS_worked_46 : decode b_GS_worked 46 = .ok (.isub, 1) := by decide +kernel
theorem d_GS_worked_47 : decode b_GS_worked 47 = .ok (.ireturn, 1) := by decide +kernel
theorem d_GS_worked_48 : decode b_GS_worked 48 = .ok (.iload_n 1, 1) := by decide +kernel
theorem d_GS_worked_49 : decode b_GS_worked 49 = .ok (.iload_n 2, 1) := by decide +kernel
theorem d_GS_worked_50 : decode b_GS_worked 50 = .ok (.iand, 1) := by decide +kernel
theorem d_GS_worked_51 : decode b_GS_worked 51 = .ok (.ireturn, 1) := by decide +kernel
theorem d_GS_worked_52 : decode b_GS_worked 52 = .ok (.iload_n 1, 1) := by decide +kernel
theorem d_GS_worked_53 : decode b_GS_worked 53 = .ok (.iload_n 2, 1) := by decide +kernel
theorem d_GS_worked_54 : decode b_GS_worked 54 = .ok (.ior, 1) := by decide +kernel
theorem d_GS_worked_55 : decode b_GS_worked 55 = .ok (.ireturn, 1) := by decide +kernel
theorem d_GS_worked_56 : decode b_GS_worked 56 = .ok (.iload_n 1, 1) := by decide +kernel
theorem d_GS_worked_57 : decode b_GS_worked 57 = .ok (.iload_n 2, 1) := by decide +kernel
theorem d_GS_worked_58 : decode b_GS_worked 58 = .ok (.ixor, 1) := by decide +kernel
theorem d_GS_worked_59 : decode b_GS_worked 59 = .ok (.ireturn, 1) := by decide +kernel
theorem d_GS_worked_60 : decode b_GS_worked 60 = .ok (.iload_n 1, 1) := by decide +kernel
theorem d_GS_worked_61 : decode b_GS_worked 61 = .ok (.iload_n 2, 1) := by decide +kernel
theorem d_GS_worked_62 : decode b_GS_worked 62 = .ok (.if_icmp .ge 7, 3) := by decide +kernel
theorem d_GS_worked_65 : decode b_GS_worked 65 = .ok (.iconst 1, 1) := by decide +kernel
theorem d_GS_worked_66 : decode b_GS_worked 66 = .ok (.goto 4, 3) := by decide +kernel
theorem d_GS_worked_69 : decode b_GS_worked 69 = .ok (.iconst 0, 1) := by decide +kernel
theorem d_GS_worked_70 : decode b_GS_worked 70 = .ok (.ireturn, 1) := by decide +kernel
theorem d_GS_worked_71 : decode b_GS_worked 71 = .ok (.iload_n 1, 1) := by decide +kernel
theorem d_GS_worked_72 : decode b_GS_worked 72 = .ok (.iload_n 2, 1) := by decide +kernel
theorem d_GS_worked_73 : decode b_GS_worked 73 = .ok (.if_icmp .ne 7, 3) := by decide +kernel
theorem d_GS_worked_76 : decode b_GS_worked 76 = .ok (.iconst 1, 1) := by decide +kernel
theorem d_GS_worked_77 : decode b_GS_worked 77 = .ok (.goto 4, 3) := by decide +kernel
theorem d_GS_worked_80 : decode b_GS_worked 80 = .ok (.iconst 0, 1) := by decide +kernel
theorem d_GS_worked_81 : decode b_GS_worked 81 = .ok (.ireturn, 1) := by decide +kernel
theorem d_CA_init_0 : decode b_CA_init 0 = .ok (.aload_n 0, 1) := by decide +kernel
theorem d_CA_init_1 : decode b_CA_init 1 = .ok (.invokespecial 3, 3) := by decide +kernel
theorem d_CA_init_4 : decode b_CA_init 4 = .ok (.aload_n 0, 1) := by decide +kernel
theorem d_CA_init_5 : decode b_CA_init 5 = .ok (.bipush 8, 2) := by decide +kernel
theorem d_CA_init_7 : decode b_CA_init 7 = .ok (.newarray .int, 2) := by decide +kernel
theorem d_CA_init_9 : decode b_CA_init 9 = .ok (.putfield 9, 3) := by decide +kernel
theorem d_CA_init_12 : decode b_CA_init 12 = .ok (.return_, 1) := by decide +kernel
theorem d_CA_assign_0 : decode b_CA_assign 0 = .ok (.iload_n 1, 1) := by decide +kernel
theorem d_CA_assign_1 : decode b_CA_assign 1 = .ok (.invokestatic 15, 3) := by decide +kernel
theorem d_CA_assign_4 : decode b_CA_assign 4 = .ok (.ifCond .ne 5, 3) := by decide +kernel
theorem d_CA_assign_7 : decode b_CA_assign 7 = .ok (.iconst 0, 1) := by decide +kernel
theorem d_CA_assign_8 : decode b_CA_assign 8 = .ok (.ireturn, 1) := by decide +kernel
theorem d_CA_assign_9 : decode b_CA_assign 9 = .ok (.aload_n 0, 1) := by decide +kernel
theorem d_CA_assign_10 : decode b_CA_assign 10 = .ok (.getfield 9, 3) := by decide +kernel
theorem d_CA_assign_13 : decode b_CA_assign 13 = .ok (.iload_n 1, 1) := by decide +kernel
theorem d_CA_assign_14 : decode b_CA_assign 14 = .ok (.iload_n 2, 1) := by decide +kernel
theorem d_CA_assign_15 : decode b_CA_assign 15 = .ok (.iastore, 1) := by decide +kernel
theorem d_CA_assign_16 : decode b_CA_assign 16 = .ok (.iconst 1, 1) := by decide +kernel
theorem d_CA_assign_17 : decode b_CA_assign 17 = .ok (.ireturn, 1) := by decide +kernel
theorem d_CA_variable_0 : decode b_CA_variable 0 = .ok (.iload_n 1, 1) := by decide +kernel
theorem d_CA_variable_1 : decode b_CA_variable 1 = .ok (.invokestatic 15, 3) := by decide +kernel
theorem d_CA_variable_4 : decode b_CA_variable 4 = .ok (.ifCond .eq 12, 3) := by decide +kernel
theorem d_CA_variable_7 : decode b_CA_variable 7 = .ok (.aload_n 0, 1) := by decide +kernel
theorem d_CA_variable_8 : decode b_CA_variable 8 = .ok (.getfield 9, 3) := by decide +kernel
theorem d_CA_variable_11 : decode b_CA_variable 11 = .ok (.iload_n 1, 1) := by decide +kernel
theorem d_CA_variable_12 : decode b_CA_variable 12 = .ok (.iaload, 1) := by decide +kernel
theorem d_CA_variable_13 : decode b_CA_variable 13 = .ok (.goto 4, 3) := by decide +kernel
theorem d_CA_variable_16 : decode b_CA_variable 16 = .ok (.iconst 0, 1) := by decide +kernel
theorem d_CA_variable_17 : decode b_CA_variable 17 = .ok (.ireturn, 1) := by decide +kernel
theorem d_CA_valueAt_0 : decode b_CA_valueAt 0 = .ok (.aload_n 0, 1) := by decide +kernel
theorem d_CA_valueAt_1 : decode b_CA_valueAt 1 = .ok (.iload_n 2, 1) := by decide +kernel
theorem d_CA_valueAt_2 : decode b_CA_valueAt 2 = .ok (.putfield 19, 3) := by decide +kernel
theorem d_CA_valueAt_5 : decode b_CA_valueAt 5 = .ok (.aload_n 0, 1) := by decide +kernel
theorem d_CA_valueAt_6 : decode b_CA_valueAt 6 = .ok (.aload_n 1, 1) := by decide +kernel
theorem d_CA_valueAt_7 : decode b_CA_valueAt 7 = .ok (.iconst 0, 1) := by decide +kernel
theorem d_CA_valueAt_8 : decode b_CA_valueAt 8 = .ok (.invokevirtual 23, 3) := by decide +kernel
theorem d_CA_valueAt_11 : decode b_CA_valueAt 11 = .ok (.ireturn, 1) := by decide +kernel
theorem d_CA_cursor_0 : decode b_CA_cursor 0 = .ok (.aload_n 0, 1) := by decide +kernel
theorem d_CA_cursor_1 : decode b_CA_cursor 1 = .ok (.getfield 19, 3) := by decide +kernel
theorem d_CA_cursor_4 : decode b_CA_cursor 4 = .ok (.ireturn, 1) := by decide +kernel
theorem d_CA_expression_0 : decode b_CA_expression 0 = .ok (.aload_n 0, 1) := by decide +kernel
theorem d_CA_expression_1 : decode b_CA_expression 1 = .ok (.aload_n 1, 1) := by decide +kernel
theorem d_CA_expression_2 : decode b_CA_expression 2 = .ok (.iload_n 2, 1) := by decide +kernel
theorem d_CA_expression_3 : decode b_CA_expression 3 = .ok (.invokevirtual 27, 3) := by decide +kernel
theorem d_CA_expression_6 : decode b_CA_expression 6 = .ok (.istore_n 3, 1) := by decide +kernel
theorem d_CA_expression_7 : decode b_CA_expression 7 = .ok (.iconst 0, 1) := by decide +kernel
theorem d_CA_expression_8 : decode b_CA_expression 8 = .ok (.istore 4, 2) := by decide +kernel
theorem d_CA_expression_10 : decode b_CA_expression 10 = .ok (.iload 4, 2) := by decide +kernel
theorem d_CA_expression_12 : decode b_CA_expression 12 = .ok (.bipush 60, 2) := by decide +kernel
theorem d_CA_expression_14 : decode b_CA_expression 14 = .ok (.if_icmp .ge 54, 3) := by decide +kernel
theorem d_CA_expression_17 : decode b_CA_expression 17 = .ok (.aload_n 1, 1) := by decide +kernel
theorem d_CA_expression_18 : decode b_CA_expression 18 = .ok (.aload_n 0, 1) := by decide +kernel
theorem d_CA_expression_19 : decode b_CA_expression 19 = .ok (.getfield 19, 3) := by decide +kernel
theorem d_CA_expression_22 : decode b_CA_expression 22 = .ok (.invokevirtual 30, 3) := by decide +kernel
theorem d_CA_expression_25 : decode b_CA_expression 25 = .ok (.invokestatic 36, 3) := by decide +kernel
theorem d_CA_expression_28 : decode b_CA_expression 28 = .ok (.istore 5, 2) := by decide +kernel
theorem d_CA_expression_30 : decode b_CA_expression 30 = .ok (.iload 5, 2) := by decide +kernel
theorem d_CA_expression_32 : decode b_CA_expression 32 = .ok (.iconst (-1), 1) := by decide +kernel
theorem d_CA_expression_33 : decode b_CA_expression 33 = .ok (.if_icmp .ne 6, 3) := by decide +kernel
theorem d_CA_expression_36 : decode b_CA_expression 36 = .ok (.goto 32, 3) := by decide +kernel
theorem d_CA_expression_39 : decode b_CA_expression 39 = .ok (.aload_n 0, 1) := by decide +kernel
theorem d_CA_expression_40 : decode b_CA_expression 40 = .ok (.dup, 1) := by decide +kernel
theorem d_CA_expression_41 : decode b_CA_expression 41 = .ok (.getfield 19, 3) := by decide +kernel
theorem d_CA_expression_44 : decode b_CA_expression 44 = .ok (.iconst 1, 1) := by decide +kernel
theorem d_CA_expression_45 : decode b_CA_expression 45 = .ok (.iadd, 1) := by decide +kernel
theorem d_CA_expression_46 : decode b_CA_expression 46 = .ok (.putfield 19, 3) := by decide +kernel
theorem d_CA_expression_49 : decode b_CA_expression 49 = .ok (.iload 5, 2) := by decide +kernel
theorem d_CA_expression_51 : decode b_CA_expression 51 = .ok (.iload_n 3, 1) := by decide +kernel
theorem d_CA_expression_52 : decode b_CA_expression 52 = .ok (.aload_n 0, 1) := by decide +kernel
theorem d_CA_expression_53 : decode b_CA_expression 53 = .ok (.aload_n 1, 1) := by decide +kernel
theorem d_CA_expression_54 : decode b_CA_expression 54 = .ok (.iload_n 2, 1) := by decide +kernel
theorem d_CA_expression_55 : decode b_CA_expression 55 = .ok (.invokevirtual 27, 3) := by decide +kernel
theorem d_CA_expression_58 : decode b_CA_expression 58 = .ok (.invokestatic 39, 3) := by decide +kernel
theorem d_CA_expression_61 : decode b_CA_expression 61 = .ok (.istore_n 3, 1) := by decide +kernel
theorem d_CA_expression_62 : decode b_CA_expression 62 = .ok (.iinc 4 1, 3) := by decide +kernel
theorem d_CA_expression_65 : decode b_CA_expression 65 = .ok (.goto (-55), 3) := by decide +kernel
theorem d_CA_expression_68 : decode b_CA_expression 68 = .ok (.iload_n 3, 1) := by decide +kernel
theorem d_CA_expression_69 : decode b_CA_expression 69 = .ok (.ireturn, 1) := by decide +kernel
theorem d_CA_operand_0 : decode b_CA_operand 0 = .ok (.aload_n 1, 1) := by decide +kernel
theorem d_CA_operand_1 : decode b_CA_operand 1 = .ok (.aload_n 0, 1) := by decide +kernel
theorem d_CA_operand_2 : decode b_CA_operand 2 = .ok (.getfield 19, 3) := by decide +kernel
theorem d_CA_operand_5 : decode b_CA_operand 5 = .ok (.invokevirtual 30, 3) := by decide +kernel
theorem d_CA_operand_8 : decode b_CA_operand 8 = .ok (.istore_n 3, 1) := by decide +kernel
theorem d_CA_operand_9 : decode b_CA_operand 9 = .ok (.iload_n 3, 1) := by decide +kernel
theorem d_CA_operand_10 : decode b_CA_operand 10 = .ok (.invokestatic 43, 3) := by decide +kernel
theorem d_CA_operand_13 : decode b_CA_operand 13 = .ok (.ifCond .eq 9, 3) := by decide +kernel
theorem d_CA_operand_16 : decode b_CA_operand 16 = .ok (.aload_n 0, 1) := by decide +kernel
theorem d_CA_operand_17 : decode b_CA_operand 17 = .ok (.aload_n 1, 1) := by decide +kernel
theorem d_CA_operand_18 : decode b_CA_operand 18 = .ok (.invokevirtual 46, 3) := by decide +kernel
theorem d_CA_operand_21 : decode b_CA_operand 21 = .ok (.ireturn, 1) := by decide +kernel
theorem d_CA_operand_22 : decode b_CA_operand 22 = .ok (.aload_n 0, 1) := by decide +kernel
theorem d_CA_operand_23 : decode b_CA_operand 23 = .ok (.dup, 1) := by decide +kernel
theorem d_CA_operand_24 : decode b_CA_operand 24 = .ok (.getfield 19, 3) := by decide +kernel
theorem d_CA_operand_27 : decode b_CA_operand 27 = .ok (.iconst 1, 1) := by decide +kernel
theorem d_CA_operand_28 : decode b_CA_operand 28 = .ok (.iadd, 1) := by decide +kernel
theorem d_CA_operand_29 : decode b_CA_operand 29 = .ok (.putfield 19, 3) := by decide +kernel
theorem d_CA_operand_32 : decode b_CA_operand 32 = .ok (.iload_n 3, 1) := by decide +kernel
theorem d_CA_operand_33 : decode b_CA_operand 33 = .ok (.invokestatic 50, 3) := by decide +kernel
theorem d_CA_operand_36 : decode b_CA_operand 36 = .ok (.ifCond .eq 13, 3) := by decide +kernel
theorem d_CA_operand_39 : decode b_CA_operand 39 = .ok (.aload_n 0, 1) := by decide +kernel
theorem d_CA_operand_40 : decode b_CA_operand 40 = .ok (.getfield 9, 3) := by decide +kernel
theorem d_CA_operand_43 : decode b_CA_operand 43 = .ok (.iload_n 3, 1) := by decide +kernel
theorem d_CA_operand_44 : decode b_CA_operand 44 = .ok (.bipush 97, 2) := by decide +kernel
theorem d_CA_operand_46 : decode b_CA_operand 46 = .ok (.isub, 1) := by decide +kernel
theorem d_CA_operand_47 : decode b_CA_operand 47 = .ok (.iaload, 1) := by decide +kernel
theorem d_CA_operand_48 : decode b_CA_operand 48 = .ok (.ireturn, 1) := by decide +kernel
theorem d_CA_operand_49 : decode b_CA_operand 49 = .ok (.iload_n 2, 1) := by decide +kernel
theorem d_CA_operand_50 : decode b_CA_operand 50 = .ok (.bipush 6, 2) := by decide +kernel
theorem d_CA_operand_52 : decode b_CA_operand 52 = .ok (.if_icmp .lt 5, 3) := by decide +kernel
theorem d_CA_operand_55 : decode b_CA_operand 55 = .ok (.iconst 0, 1) := by decide +kernel
theorem d_CA_operand_56 : decode b_CA_operand 56 = .ok (.ireturn, 1) := by decide +kernel
theorem d_CA_operand_57 : decode b_CA_operand 57 = .ok (.iload_n 3, 1) := by decide +kernel
theorem d_CA_operand_58 : decode b_CA_operand 58 = .ok (.bipush 126, 2) := by decide +kernel
theorem d_CA_operand_60 : decode b_CA_operand 60 = .ok (.if_icmp .ne 14, 3) := by decide +kernel
theorem d_CA_operand_63 : decode b_CA_operand 63 = .ok (.aload_n 0, 1) := by decide +kernel
theorem d_CA_operand_64 : decode b_CA_operand 64 = .ok (.aload_n 1, 1) := by decide +kernel
theorem d_CA_operand_65 : decode b_CA_operand 65 = .ok (.iload_n 2, 1) := by decide +kernel
theorem d_CA_operand_66 : decode b_CA_operand 66 = .ok (.iconst 1, 1) := by decide +kernel
theorem d_CA_operand_67 : decode b_CA_operand 67 = .ok (.iadd, 1) := by decide +kernel
theorem d_CA_operand_68 : decode b_CA_operand 68 = .ok (.invokevirtual 27, 3) := by decide +kernel
theorem d_CA_operand_71 : decode b_CA_operand 71 = .ok (.iconst (-1), 1) := by decide +kernel
theorem d_CA_operand_72 : decode b_CA_operand 72 = .ok (.ixor, 1) := by decide +kernel
theorem d_CA_operand_73 : decode b_CA_operand 73 = .ok (.ireturn, 1) := by decide +kernel
theorem d_CA_operand_74 : decode b_CA_operand 74 = .ok (.iload_n 3, 1) := by decide +kernel
theorem d_CA_operand_75 : decode b_CA_operand 75 = .ok (.bipush 45, 2) := by decide +kernel
theorem d_CA_operand_77 : decode b_CA_operand 77 = .ok (.if_icmp .ne 13, 3) := by decide +kernel
theorem d_CA_operand_80 : decode b_CA_operand 80 = .ok (.aload_n 0, 1) := by decide +kernel
theorem d_CA_operand_81 : decode b_CA_operand 81 = .ok (.aload_n 1, 1) := by decide +kernel
theorem d_CA_operand_82 : decode b_CA_operand 82 = .ok (.iload_n 2, 1) := by decide +kernel
theorem d_CA_operand_83 : decode b_CA_operand 83 = .ok (.iconst 1, 1) := by decide +kernel
theorem d_CA_operand_84 : decode b_CA_operand 84 = .ok (.iadd, 1) := by decide +kernel
theorem d_CA_operand_85 : decode b_CA_operand 85 = .ok (.invokevirtual 27, 3) := by decide +kernel
theorem d_CA_operand_88 : decode b_CA_operand 88 = .ok (.ineg, 1) := by decide +kernel
theorem d_CA_operand_89 : decode b_CA_operand 89 = .ok (.ireturn, 1) := by decide +kernel
theorem d_CA_operand_90 : decode b_CA_operand 90 = .ok (.aload_n 0, 1) := by decide +kernel
theorem d_CA_operand_91 : decode b_CA_operand 91 = .ok (.aload_n 1, 1) := by decide +kernel
theorem d_CA_operand_92 : decode b_CA_operand 92 = .ok (.iload_n 2, 1) := by decide +kernel
theorem d_CA_operand_93 : decode b_CA_operand 93 = .ok (.iconst 1, 1) := by decide +kernel
theorem d_CA_operand_94 : decode b_CA_operand 94 = .ok (.iadd, 1) := by decide +kernel
theorem d_CA_operand_95 : decode b_CA_operand 95 = .ok (.invokevirtual 23, 3) := by decide +kernel
theorem d_CA_operand_98 : decode b_CA_operand 98 = .ok (.istore 4, 2) := by decide +kernel
theorem d_CA_operand_100 : decode b_CA_operand 100 = .ok (.aload_n 0, 1) := by decide +kernel
theorem d_CA_operand_101 : decode b_CA_operand 101 = .ok (.dup, 1) := by decide +kernel
theorem d_CA_operand_102 : decode b_CA_operand 102 = .ok (.getfield 19, 3) := by decide +kernel
theorem d_CA_operand_105 : decode b_CA_operand 105 = .ok (.iconst 1, 1) := by decide +kernel
theorem d_CA_operand_106 : decode b_CA_operand 106 = .ok (.iadd, 1) := by decide +kernel
theorem d_CA_operand_107 : decode b_CA_operand 107 = .ok (.putfield 19, 3) := by decide +kernel
theorem d_CA_operand_110 : decode b_CA_operand 110 = .ok (.iload 4, 2) := by decide +kernel
theorem d_CA_operand_112 : decode b_CA_operand 112 = .ok (.ireturn, 1) := by decide +kernel
theorem d_CA_number_0 : decode b_CA_number 0 = .ok (.iconst 0, 1) := by decide +kernel
theorem d_CA_number_1 : decode b_CA_number 1 = .ok (.istore_n 2, 1) := by decide +kernel
theorem d_CA_number_2 : decode b_CA_number 2 = .ok (.iconst 0, 1) := by decide +kernel
theorem d_CA_number_3 : decode b_CA_number 3 = .ok (.istore_n 3, 1) := by decide +kernel
theorem d_CA_number_4 : decode b_CA_number 4 = .ok (.iload_n 3, 1) := by decide +kernel
theorem d_CA_number_5 : decode b_CA_number 5 = .ok (.iconst 4, 1) := by decide +kernel
theorem d_CA_number_6 : decode b_CA_number 6 = .ok (.if_icmp .ge 50, 3) := by decide +kernel
theorem d_CA_number_9 : decode b_CA_number 9 = .ok (.aload_n 1, 1) := by decide +kernel
theorem d_CA_number_10 : decode b_CA_number 10 = .ok (.aload_n 0, 1) := by decide +kernel
theorem d_CA_number_11 : decode b_CA_number 11 = .ok (.getfield 19, 3) := by decide +kernel
theorem d_CA_number_14 : decode b_CA_number 14 = .ok (.invokevirtual 30, 3) := by decide +kernel
theorem d_CA_number_17 : decode b_CA_number 17 = .ok (.invokestatic 43, 3) := by decide +kernel
theorem d_CA_number_20 : decode b_CA_number 20 = .ok (.ifCond .eq 36, 3) := by decide +kernel
theorem d_CA_number_23 : decode b_CA_number 23 = .ok (.iload_n 2, 1) := by decide +kernel
theorem d_CA_number_24 : decode b_CA_number 24 = .ok (.bipush 10, 2) := by decide +kernel
theorem d_CA_number_26 : decode b_CA_number 26 = .ok (.imul, 1) := by decide +kernel
theorem d_CA_number_27 : decode b_CA_number 27 = .ok (.aload_n 1, 1) := by decide +kernel
theorem d_CA_number_28 : decode b_CA_number 28 = .ok (.aload_n 0, 1) := by decide +kernel
theorem d_CA_number_29 : decode b_CA_number 29 = .ok (.getfield 19, 3) := by decide +kernel
theorem d_CA_number_32 : decode b_CA_number 32 = .ok (.invokevirtual 30, 3) := by decide +kernel
theorem d_CA_number_35 : decode b_CA_number 35 = .ok (.iadd, 1) := by decide +kernel
theorem d_CA_number_36 : decode b_CA_number 36 = .ok (.bipush 48, 2) := by decide +kernel
theorem d_CA_number_38 : decode b_CA_number 38 = .ok (.isub, 1) := by decide +kernel
theorem d_CA_number_39 : decode b_CA_number 39 = .ok (.istore_n 2, 1) := by decide +kernel
theorem d_CA_number_40 : decode b_CA_number 40 = .ok (.aload_n 0, 1) := by decide +kernel
theorem d_CA_number_41 : decode b_CA_number 41 = .ok (.dup, 1) := by decide +kernel
theorem d_CA_number_42 : decode b_CA_number 42 = .ok (.getfield 19, 3) := by decide +kernel
theorem d_CA_number_45 : decode b_CA_number 45 = .ok (.iconst 1, 1) := by decide +kernel
theorem d_CA_number_46 : decode b_CA_number 46 = .ok (.iadd, 1) := by decide +kernel
theorem d_CA_number_47 : decode b_CA_number 47 = .ok (.putfield 19, 3) := by decide +kernel
theorem d_CA_number_50 : decode b_CA_number 50 = .ok (.iinc 3 1, 3) := by decide +kernel
theorem d_CA_number_53 : decode b_CA_number 53 = .ok (.goto (-49), 3) := by decide +kernel
theorem d_CA_number_56 : decode b_CA_number 56 = .ok (.iload_n 2, 1) := by decide +kernel
theorem d_CA_number_57 : decode b_CA_number 57 = .ok (.ireturn, 1) := by decide +kernel
theorem d_MA_init_0 : decode b_MA_init 0 = .ok (.aload_n 0, 1) := by decide +kernel
theorem d_MA_init_1 : decode b_MA_init 1 = .ok (.invokespecial 3, 3) := by decide +kernel
theorem d_MA_init_4 : decode b_MA_init 4 = .ok (.aload_n 0, 1) := by decide +kernel
theorem d_MA_init_5 : decode b_MA_init 5 = .ok (.bipush 26, 2) := by decide +kernel
theorem d_MA_init_7 : decode b_MA_init 7 = .ok (.newarray .int, 2) := by decide +kernel
theorem d_MA_init_9 : decode b_MA_init 9 = .ok (.putfield 9, 3) := by decide +kernel
theorem d_MA_init_12 : decode b_MA_init 12 = .ok (.aload_n 0, 1) := by decide +kernel
theorem d_MA_init_13 : decode b_MA_init 13 = .ok (.bipush 26, 2) := by decide +kernel
theorem d_MA_init_15 : decode b_MA_init 15 = .ok (.newarray .int, 2) := by decide +kernel
theorem d_MA_init_17 : decode b_MA_init 17 = .ok (.putfield 15, 3) := by decide +kernel
theorem d_MA_init_20 : decode b_MA_init 20 = .ok (.aload_n 0, 1) := by decide +kernel
theorem d_MA_init_21 : decode b_MA_init 21 = .ok (.bipush 24, 2) := by decide +kernel
theorem d_MA_init_23 : decode b_MA_init 23 = .ok (.newarray .int, 2) := by decide +kernel
theorem d_MA_init_25 : decode b_MA_init 25 = .ok (.putfield 18, 3) := by decide +kernel
theorem d_MA_init_28 : decode b_MA_init 28 = .ok (.return_, 1) := by decide +kernel
theorem d_MA_isGoing_0 : decode b_MA_isGoing 0 = .ok (.aload_n 0, 1) := by decide +kernel
theorem d_MA_isGoing_1 : decode b_MA_isGoing 1 = .ok (.getfield 21, 3) := by decide +kernel
theorem d_MA_isGoing_4 : decode b_MA_isGoing 4 = .ok (.ifCond .le 7, 3) := by decide +kernel
theorem d_MA_isGoing_7 : decode b_MA_isGoing 7 = .ok (.iconst 1, 1) := by decide +kernel
theorem d_MA_isGoing_8 : decode b_MA_isGoing 8 = .ok (.goto 4, 3) := by decide +kernel
theorem d_MA_isGoing_11 : decode b_MA_isGoing 11 = .ok (.iconst 0, 1) := by decide +kernel
theorem d_MA_isGoing_12 : decode b_MA_isGoing 12 = .ok (.ireturn, 1) := by decide +kernel
theorem d_MA_depth_0 : decode b_MA_depth 0 = .ok (.aload_n 0, 1) := by decide +kernel
theorem d_MA_depth_1 : decode b_MA_depth 1 = .ok (.getfield 21, 3) := by decide +kernel
theorem d_MA_depth_4 : decode b_MA_depth 4 = .ok (.ireturn, 1) := by decide +kernel
theorem d_MA_outputCount_0 : decode b_MA_outputCount 0 = .ok (.aload_n 0, 1) := by decide +kernel
theorem d_MA_outputCount_1 : decode b_MA_outputCount 1 = .ok (.getfield 25, 3) := by decide +kernel
theorem d_MA_outputCount_4 : decode b_MA_outputCount 4 = .ok (.ireturn, 1) := by decide +kernel
theorem d_MA_hasKept_0 : decode b_MA_hasKept 0 = .ok (.iload_n 1, 1) := by decide +kernel
theorem d_MA_hasKept_1 : decode b_MA_hasKept 1 = .ok (.ifCond .lt 21, 3) := by decide +kernel
theorem d_MA_hasKept_4 : decode b_MA_hasKept 4 = .ok (.iload_n 1, 1) := by decide +kernel
theorem d_MA_hasKept_5 : decode b_MA_hasKept 5 = .ok (.bipush 24, 2) := by decide +kernel
theorem d_MA_hasKept_7 : decode b_MA_hasKept 7 = .ok (.if_icmp .ge 15, 3) := by decide +kernel
theorem d_MA_hasKept_10 : decode b_MA_hasKept 10 = .ok (.iload_n 1, 1) := by decide +kernel
theorem d_MA_hasKept_11 : decode b_MA_hasKept 11 = .ok (.aload_n 0, 1) := by decide +kernel
theorem d_MA_hasKept_12 : decode b_MA_hasKept 12 = .ok (.getfield 25, 3) := by decide +kernel
theorem d_MA_hasKept_15 : decode b_MA_hasKept 15 = .ok (.if_icmp .ge 7, 3) := by decide +kernel
theorem d_MA_hasKept_18 : decode b_MA_hasKept 18 = .ok (.iconst 1, 1) := by decide +kernel
theorem d_MA_hasKept_19 : decode b_MA_hasKept 19 = .ok (.goto 4, 3) := by decide +kernel
theorem d_MA_hasKept_22 : decode b_MA_hasKept 22 = .ok (.iconst 0, 1) := by decide +kernel
theorem d_MA_hasKept_23 : decode b_MA_hasKept 23 = .ok (.ireturn, 1) := by decide +kernel
theorem d_MA_kept_0 : decode b_MA_kept 0 = .ok (.aload_n 0, 1) := by decide +kernel
theorem d_MA_kept_1 : decode b_MA_kept 1 = .ok (.iload_n 1, 1) := by decide +kernel
theorem d_MA_kept_2 : decode b_MA_kept 2 = .ok (.invokevirtual 28, 3) := by decide +kernel
theorem d_MA_kept_5 : decode b_MA_kept 5 = .ok (.ifCond .eq 12, 3) := by decide +kernel
theorem d_MA_kept_8 : decode b_MA_kept 8 = .ok (.aload_n 0, 1) := by decide +kernel
theorem d_MA_kept_9 : decode b_MA_kept 9 = .ok (.getfield 18, 3) := by decide +kernel
theorem d_MA_kept_12 : decode b_MA_kept 12 = .ok (.iload_n 1, 1) := by decide +kernel
theorem d_MA_kept_13 : decode b_MA_kept 13 = .ok (.iaload, 1) := by decide +kernel
theorem d_MA_kept_14 : decode b_MA_kept 14 = .ok (.goto 4, 3) := by decide +kernel
theorem d_MA_kept_17 : decode b_MA_kept 17 = .ok (.iconst 0, 1) := by decide +kernel
theorem d_MA_kept_18 : decode b_MA_kept 18 = .ok (.ireturn, 1) := by decide +kernel
theorem d_MA_letterCode_0 : decode b_MA_letterCode 0 = .ok (.aload_n 0, 1) := by decide +kernel
theorem d_MA_letterCode_1 : decode b_MA_letterCode 1 = .ok (.getfield 21, 3) := by decide +kernel
theorem d_MA_letterCode_4 : decode b_MA_letterCode 4 = .ok (.ifCond .le 20, 3) := by decide +kernel
theorem d_MA_letterCode_7 : decode b_MA_letterCode 7 = .ok (.bipush 65, 2) := by decide +kernel
theorem d_MA_letterCode_9 : decode b_MA_letterCode 9 = .ok (.aload_n 0, 1) := by decide +kernel
theorem d_MA_letterCode_10 : decode b_MA_letterCode 10 = .ok (.getfield 9, 3) := by decide +kernel
theorem d_MA_letterCode_13 : decode b_MA_letterCode 13 = .ok (.aload_n 0, 1) := by decide +kernel
theorem d_MA_letterCode_14 : decode b_MA_letterCode 14 = .ok (.getfield 21, 3) := by decide +kernel
theorem d_MA_letterCode_17 : decode b_MA_letterCode 17 = .ok (.iconst 1, 1) := by decide +kernel
theorem d_MA_letterCode_18 : decode b_MA_letterCode 18 = .ok (.isub, 1) := by decide +kernel
theorem d_MA_letterCode_19 : decode b_MA_letterCode 19 = .ok (.iaload, 1) := by decide +kernel
theorem d_MA_letterCode_20 : decode b_MA_letterCode 20 = .ok (.iadd, 1) := by decide +kernel
theorem d_MA_letterCode_21 : decode b_MA_letterCode 21 = .ok (.goto 4, 3) := by decide +kernel
theorem d_MA_letterCode_24 : decode b_MA_letterCode 24 = .ok (.iconst 0, 1) := by decide +kernel
theorem d_MA_letterCode_25 : decode b_MA_letterCode 25 = .ok (.ireturn, 1) := by decide +kernel
theorem d_MA_statementNumber_0 : decode b_MA_statementNumber 0 = .ok (.aload_n 0, 1) := by decide +kernel
theorem d_MA_statementNumber_1 : decode b_MA_statementNumber 1 = .ok (.aload_n 1, 1) := by decide +kernel
theorem d_MA_statementNumber_2 : decode b_MA_statementNumber 2 = .ok (.invokevirtual 32, 3) := by decide +kernel
theorem d_MA_statementNumber_5 : decode b_MA_statementNumber 5 = .ok (.astore_n 2, 1) := by decide +kernel
theorem d_MA_statementNumber_6 : decode b_MA_statementNumber 6 = .ok (.aload_n 2, 1) := by decide +kernel
theorem d_MA_statementNumber_7 : decode b_MA_statementNumber 7 = .ok (.ifnonnull 7, 3) := by decide +kernel
theorem d_MA_statementNumber_10 : decode b_MA_statementNumber 10 = .ok (.iconst 0, 1) := by decide +kernel
theorem d_MA_statementNumber_11 : decode b_MA_statementNumber 11 = .ok (.goto 18, 3) := by decide +kernel
theorem d_MA_statementNumber_14 : decode b_MA_statementNumber 14 = .ok (.aload_n 2, 1) := by decide +kernel
theorem d_MA_statementNumber_15 : decode b_MA_statementNumber 15 = .ok (.aload_n 0, 1) := by decide +kernel
theorem d_MA_statementNumber_16 : decode b_MA_statementNumber 16 = .ok (.getfield 15, 3) := by decide +kernel
theorem d_MA_statementNumber_19 : decode b_MA_statementNumber 19 = .ok (.aload_n 0, 1) := by decide +kernel
theorem d_MA_statementNumber_20 : decode b_MA_statementNumber 20 = .ok (.getfield 21, 3) := by decide +kernel
theorem d_MA_statementNumber_23 : decode b_MA_statementNumber 23 = .ok (.iconst 1, 1) := by decide +kernel
theorem d_MA_statementNumber_24 : decode b_MA_statementNumber 24 = .ok (.isub, 1) := by decide +kernel
theorem d_MA_statementNumber_25 : decode b_MA_statementNumber 25 = .ok (.iaload, 1) := by decide +kernel
theorem d_MA_statementNumber_26 : decode b_MA_statementNumber 26 = .ok (.invokevirtual 36, 3) := by decide +kernel
theorem d_MA_statementNumber_29 : decode b_MA_statementNumber 29 = .ok (.ireturn, 1) := by decide +kernel
theorem d_MA_halt_0 : decode b_MA_halt 0 = .ok (.aload_n 0, 1) := by decide +kernel
theorem d_MA_halt_1 : decode b_MA_halt 1 = .ok (.iconst 0, 1) := by decide +kernel
theorem d_MA_halt_2 : decode b_MA_halt 2 = .ok (.putfield 21, 3) := by decide +kernel
theorem d_MA_halt_5 : decode b_MA_halt 5 = .ok (.return_, 1) := by decide +kernel
theorem d_MA_begin_0 : decode b_MA_begin 0 = .ok (.aload_n 0, 1) := by decide +kernel
theorem d_MA_begin_1 : decode b_MA_begin 1 = .ok (.iconst 0, 1) := by decide +kernel
theorem d_MA_begin_2 : decode b_MA_begin 2 = .ok (.putfield 25, 3) := by decide +kernel
theorem d_MA_begin_5 : decode b_MA_begin 5 = .ok (.aload_n 0, 1) := by decide +kernel
theorem d_MA_begin_6 : decode b_MA_begin 6 = .ok (.iconst 0, 1) := by decide +kernel
theorem d_MA_begin_7 : decode b_MA_begin 7 = .ok (.putfield 21, 3) := by decide +kernel
theorem d_MA_begin_10 : decode b_MA_begin 10 = .ok (.aload_n 0, 1) := by decide +kernel
theorem d_MA_begin_11 : decode b_MA_begin 11 = .ok (.aload_n 1, 1) := by decide +kernel
theorem d_MA_begin_12 : decode b_MA_begin 12 = .ok (.bipush 12, 2) := by decide +kernel
theorem d_MA_begin_14 : decode b_MA_begin 14 = .ok (.invokevirtual 42, 3) := by decide +kernel
theorem d_MA_begin_17 : decode b_MA_begin 17 = .ok (.aload_n 0, 1) := by decide +kernel
theorem d_MA_begin_18 : decode b_MA_begin 18 = .ok (.aload_n 1, 1) := by decide +kernel
theorem d_MA_begin_19 : decode b_MA_begin 19 = .ok (.invokevirtual 46, 3) := by decide +kernel
theorem d_MA_begin_22 : decode b_MA_begin 22 = .ok (.return_, 1) := by decide +kernel
theorem d_MA_step_0 : decode b_MA_step 0 = .ok (.aload_n 0, 1) := by decide +kernel
theorem d_MA_step_1 : decode b_MA_step 1 = .ok (.aload_n 1, 1) := by decide +kernel
theorem d_MA_step_2 : decode b_MA_step 2 = .ok (.invokevirtual 32, 3) := by decide +kernel
theorem d_MA_step_5 : decode b_MA_step 5 = .ok (.astore_n 3, 1) := by decide +kernel
theorem d_MA_step_6 : decode b_MA_step 6 = .ok (.aload_n 3, 1) := by decide +kernel
theorem d_MA_step_7 : decode b_MA_step 7 = .ok (.ifnonnull 4, 3) := by decide +kernel
theorem d_MA_step_10 : decode b_MA_step 10 = .ok (.return_, 1) := by decide +kernel
theorem d_MA_step_11 : decode b_MA_step 11 = .ok (.aload_n 0, 1) := by decide +kernel
theorem d_MA_step_12 : decode b_MA_step 12 = .ok (.getfield 21, 3) := by decide +kernel
theorem d_MA_step_15 : decode b_MA_step 15 = .ok (.iconst 1, 1) := by decide +kernel
theorem d_MA_step_16 : decode b_MA_step 16 = .ok (.isub, 1) := by decide +kernel
theorem d_MA_step_17 : decode b_MA_step 17 = .ok (.istore 4, 2) := by decide +kernel
theorem d_MA_step_19 : decode b_MA_step 19 = .ok (.aload_n 0, 1) := by decide +kernel
theorem d_MA_step_20 : decode b_MA_step 20 = .ok (.getfield 15, 3) := by decide +kernel
theorem d_MA_step_23 : decode b_MA_step 23 = .ok (.iload 4, 2) := by decide +kernel
theorem d_MA_step_25 : decode b_MA_step 25 = .ok (.iaload, 1) := by decide +kernel
theorem d_MA_step_26 : decode b_MA_step 26 = .ok (.istore 5, 2) := by decide +kernel
theorem d_MA_step_28 : decode b_MA_step 28 = .ok (.aload_n 3, 1) := by decide +kernel
theorem d_MA_step_29 : decode b_MA_step 29 = .ok (.iload 5, 2) := by decide +kernel
theorem d_MA_step_31 : decode b_MA_step 31 = .ok (.invokevirtual 50, 3) := by decide +kernel
theorem d_MA_step_34 : decode b_MA_step 34 = .ok (.istore 6, 2) := by decide +kernel
theorem d_MA_step_36 : decode b_MA_step 36 = .ok (.iload 6, 2) := by decide +kernel
theorem d_MA_step_38 : decode b_MA_step 38 = .ok (.invokestatic 53, 3) := by decide +kernel
theorem d_MA_step_41 : decode b_MA_step 41 = .ok (.ifCond .eq 27, 3) := by decide +kernel
theorem d_MA_step_44 : decode b_MA_step 44 = .ok (.aload_n 0, 1) := by decide +kernel
theorem d_MA_step_45 : decode b_MA_step 45 = .ok (.getfield 15, 3) := by decide +kernel
theorem d_MA_step_48 : decode b_MA_step 48 = .ok (.iload 4, 2) := by decide +kernel
theorem d_MA_step_50 : decode b_MA_step 50 = .ok (.iload 5, 2) := by decide +kernel
theorem d_MA_step_52 : decode b_MA_step 52 = .ok (.iconst 2, 1) := by decide +kernel
theorem d_MA_step_53 : decode b_MA_step 53 = .ok (.iadd, 1) := by decide +kernel
theorem d_MA_step_54 : decode b_MA_step 54 = .ok (.iastore, 1) := by decide +kernel
theorem d_MA_step_55 : decode b_MA_step 55 = .ok (.aload_n 0, 1) := by decide +kernel
theorem d_MA_step_56 : decode b_MA_step 56 = .ok (.aload_n 1, 1) := by decide +kernel
theorem d_MA_step_57 : decode b_MA_step 57 = .ok (.iload 6, 2) := by decide +kernel
theorem d_MA_step_59 : decode b_MA_step 59 = .ok (.bipush 65, 2) := by decide +kernel
theorem d_MA_step_61 : decode b_MA_step 61 = .ok (.isub, 1) := by decide +kernel
theorem d_MA_step_62 : decode b_MA_step 62 = .ok (.invokevirtual 42, 3) := by decide +kernel
theorem d_MA_step_65 : decode b_MA_step 65 = .ok (.goto 18, 3) := by decide +kernel
theorem d_MA_step_68 : decode b_MA_step 68 = .ok (.aload_n 0, 1) := by decide +kernel
theorem d_MA_step_69 : decode b_MA_step 69 = .ok (.getfield 15, 3) := by decide +kernel
theorem d_MA_step_72 : decode b_MA_step 72 = .ok (.iload 4, 2) := by decide +kernel
theorem d_MA_step_74 : decode b_MA_step 74 = .ok (.aload_n 0, 1) := by decide +kernel
theorem d_MA_step_75 : decode b_MA_step 75 = .ok (.aload_n 3, 1) := by decide +kernel
theorem d_MA_step_76 : decode b_MA_step 76 = .ok (.iload 5, 2) := by decide +kernel
theorem d_MA_step_78 : decode b_MA_step 78 = .ok (.aload_n 2, 1) := by decide +kernel
theorem d_MA_step_79 : decode b_MA_step 79 = .ok (.invokevirtual 56, 3) := by decide +kernel
theorem d_MA_step_82 : decode b_MA_step 82 = .ok (.iastore, 1) := by decide +kernel
theorem d_MA_step_83 : decode b_MA_step 83 = .ok (.aload_n 0, 1) := by decide +kernel
theorem d_MA_step_84 : decode b_MA_step 84 = .ok (.aload_n 1, 1) := by decide +kernel
theorem d_MA_step_85 : decode b_MA_step 85 = .ok (.invokevirtual 46, 3) := by decide +kernel
theorem d_MA_step_88 : decode b_MA_step 88 = .ok (.return_, 1) := by decide +kernel
theorem d_MA_currentText_0 : decode b_MA_currentText 0 = .ok (.aload_n 0, 1) := by decide +kernel
theorem d_MA_currentText_1 : decode b_MA_currentText 1 = .ok (.getfield 21, 3) := by decide +kernel
theorem d_MA_currentText_4 : decode b_MA_currentText 4 = .ok (.ifCond .le 21, 3) := by decide +kernel
theorem d_MA_currentText_7 : decode b_MA_currentText 7 = .ok (.aload_n 1, 1) := by decide +kernel
theorem d_MA_currentText_8 : decode b_MA_currentText 8 = .ok (.aload_n 0, 1) := by decide +kernel
theorem d_MA_currentText_9 : decode b_MA_currentText 9 = .ok (.getfield 9, 3) := by decide +kernel
theorem d_MA_currentText_12 : decode b_MA_currentText 12 = .ok (.aload_n 0, 1) := by decide +kernel
theorem d_MA_currentText_13 : decode b_MA_currentText 13 = .ok (.getfield 21, 3) := by decide +kernel
theorem d_MA_currentText_16 : decode b_MA_currentText 16 = .ok (.iconst 1, 1) := by decide +kernel
theorem d_MA_currentText_17 : decode b_MA_currentText 17 = .ok (.isub, 1) := by decide +kernel
theorem d_MA_currentText_18 : decode b_MA_currentText 18 = .ok (.iaload, 1) := by decide +kernel
theorem d_MA_currentText_19 : decode b_MA_currentText 19 = .ok (.invokevirtual 60, 3) := by decide +kernel
theorem d_MA_currentText_22 : decode b_MA_currentText 22 = .ok (.goto 4, 3) := by decide +kernel
theorem d_MA_currentText_25 : decode b_MA_currentText 25 = .ok (.aconst_null, 1) := by decide +kernel
theorem d_MA_currentText_26 : decode b_MA_currentText 26 = .ok (.areturn, 1) := by decide +kernel
theorem d_MA_enter_0 : decode b_MA_enter 0 = .ok (.aload_n 1, 1) := by decide +kernel
theorem d_MA_enter_1 : decode b_MA_enter 1 = .ok (.iload_n 2, 1) := by decide +kernel
theorem d_MA_enter_2 : decode b_MA_enter 2 = .ok (.invokevirtual 60, 3) := by decide +kernel
theorem d_MA_enter_5 : decode b_MA_enter 5 = .ok (.astore_n 3, 1) := by decide +kernel
theorem d_MA_enter_6 : decode b_MA_enter 6 = .ok (.aload_n 3, 1) := by decide +kernel
theorem d_MA_enter_7 : decode b_MA_enter 7 = .ok (.ifnull 12, 3) := by decide +kernel
theorem d_MA_enter_10 : decode b_MA_enter 10 = .ok (.aload_n 0, 1) := by decide +kernel
theorem d_MA_enter_11 : decode b_MA_enter 11 = .ok (.getfield 21, 3) := by decide +kernel
theorem d_MA_enter_14 : decode b_MA_enter 14 = .ok (.bipush 26, 2) := by decide +kernel
theorem d_MA_enter_16 : decode b_MA_enter 16 = .ok (.if_icmp .lt 4, 3) := by decide +kernel
theorem d_MA_enter_19 : decode b_MA_enter 19 = .ok (.return_, 1) := by decide +kernel
theorem d_MA_enter_20 : decode b_MA_enter 20 = .ok (.aload_n 0, 1) := by decide +kernel
theorem d_MA_enter_21 : decode b_MA_enter 21 = .ok (.getfield 9, 3) := by decide +kernel
theorem d_MA_enter_24 : decode b_MA_enter 24 = .ok (.aload_n 0, 1) := by decide +kernel
theorem d_MA_enter_25 : decode b_MA_enter 25 = .ok (.getfield 21, 3) := by decide +kernel
theorem d_MA_enter_28 : decode b_MA_enter 28 = .ok (.iload_n 2, 1) := by decide +kernel
theorem d_MA_enter_29 : decode b_MA_enter 29 = .ok (.iastore, 1) := by decide +kernel
theorem d_MA_enter_30 : decode b_MA_enter 30 = .ok (.aload_n 0, 1) := by decide +kernel
theorem d_MA_enter_31 : decode b_MA_enter 31 = .ok (.getfield 15, 3) := by decide +kernel
theorem d_MA_enter_34 : decode b_MA_enter 34 = .ok (.aload_n 0, 1) := by decide +kernel
theorem d_MA_enter_35 : decode b_MA_enter 35 = .ok (.getfield 21, 3) := by decide +kernel
theorem d_MA_enter_38 : decode b_MA_enter 38 = .ok (.aload_n 3, 1) := by decide +kernel
theorem d_MA_enter_39 : decode b_MA_enter 39 = .ok (.iload_n 2, 1) := by decide +kernel
theorem d_MA_enter_40 : decode b_MA_enter 40 = .ok (.invokevirtual 66, 3) := by decide +kernel
theorem d_MA_enter_43 : decode b_MA_enter 43 = .ok (.iastore, 1) := by decide +kernel
theorem d_MA_enter_44 : decode b_MA_enter 44 = .ok (.aload_n 0, 1) := by decide +kernel
theorem d_MA_enter_45 : decode b_MA_enter 45 = .ok (.dup, 1) := by decide +kernel
theorem d_MA_enter_46 : decode b_MA_enter 46 = .ok (.getfield 21, 3) := by decide +kernel
theorem d_MA_enter_49 : decode b_MA_enter 49 = .ok (.iconst 1, 1) := by decide +kernel
theorem d_MA_enter_50 : decode b_MA_enter 50 = .ok (.iadd, 1) := by decide +kernel
theorem d_MA_enter_51 : decode b_MA_enter 51 = .ok (.putfield 21, 3) := by decide +kernel
theorem d_MA_enter_54 : decode b_MA_enter 54 = .ok (.return_, 1) := by decide +kernel
theorem d_MA_placeBehind_0 : decode b_MA_placeBehind 0 = .ok (.aload_n 1, 1) := by decide +kernel
theorem d_MA_placeBehind_1 : decode b_MA_placeBehind 1 = .ok (.iload_n 2, 1) := by decide +kernel
theorem d_MA_placeBehind_2 : decode b_MA_placeBehind 2 = .ok (.invokevirtual 50, 3) := by decide +kernel
theorem d_MA_placeBehind_5 : decode b_MA_placeBehind 5 = .ok (.istore 4, 2) := by decide +kernel
theorem d_MA_placeBehind_7 : decode b_MA_placeBehind 7 = .ok (.iload 4, 2) := by decide +kernel
theorem d_MA_placeBehind_9 : decode b_MA_placeBehind 9 = .ok (.invokestatic 69, 3) := by decide +kernel
theorem d_MA_placeBehind_12 : decode b_MA_placeBehind 12 = .ok (.istore 5, 2) := by decide +kernel
theorem d_MA_placeBehind_14 : decode b_MA_placeBehind 14 = .ok (.aload_n 3, 1) := by decide +kernel
theorem d_MA_placeBehind_15 : decode b_MA_placeBehind 15 = .ok (.aload_n 1, 1) := by decide +kernel
theorem d_MA_placeBehind_16 : decode b_MA_placeBehind 16 = .ok (.iload 5, 2) := by decide +kernel
theorem d_MA_placeBehind_18 : decode b_MA_placeBehind 18 = .ok (.ifCond .eq 9, 3) := by decide +kernel
theorem d_MA_placeBehind_21 : decode b_MA_placeBehind 21 = .ok (.iload_n 2, 1) := by decide +kernel
theorem d_MA_placeBehind_22 : decode b_MA_placeBehind 22 = .ok (.iconst 2, 1) := by decide +kernel
theorem d_MA_placeBehind_23 : decode b_MA_placeBehind 23 = .ok (.iadd, 1) := by decide +kernel
theorem d_MA_placeBehind_24 : decode b_MA_placeBehind 24 = .ok (.goto 6, 3) := by decide +kernel
theorem d_MA_placeBehind_27 : decode b_MA_placeBehind 27 = .ok (.iload_n 2, 1) := by decide +kernel
theorem d_MA_placeBehind_28 : decode b_MA_placeBehind 28 = .ok (.iconst 1, 1) := by decide +kernel
theorem d_MA_placeBehind_29 : decode b_MA_placeBehind 29 = .ok (.iadd, 1) := by decide +kernel
theorem d_MA_placeBehind_30 : decode b_MA_placeBehind 30 = .ok (.invokevirtual 72, 3) := by decide +kernel
theorem d_MA_placeBehind_33 : decode b_MA_placeBehind 33 = .ok (.istore 6, 2) := by decide +kernel
theorem d_MA_placeBehind_35 : decode b_MA_placeBehind 35 = .ok (.aload_n 3, 1) := by decide +kernel
theorem d_MA_placeBehind_36 : decode b_MA_placeBehind 36 = .ok (.invokevirtual 78, 3) := by decide +kernel
theorem d_MA_placeBehind_39 : decode b_MA_placeBehind 39 = .ok (.iconst 1, 1) := by decide +kernel
theorem d_MA_placeBehind_40 : decode b_MA_placeBehind 40 = .ok (.iadd, 1) := by decide +kernel
theorem d_MA_placeBehind_41 : decode b_MA_placeBehind 41 = .ok (.istore 7, 2) := by decide +kernel
theorem d_MA_placeBehind_43 : decode b_MA_placeBehind 43 = .ok (.iload 5, 2) := by decide +kernel
theorem d_MA_placeBehind_45 : decode b_MA_placeBehind 45 = .ok (.ifCond .eq 18, 3) := by decide +kernel
theorem d_MA_placeBehind_48 : decode b_MA_placeBehind 48 = .ok (.aload_n 3, 1) := by decide +kernel
theorem d_MA_placeBehind_49 : decode b_MA_placeBehind 49 = .ok (.iload 4, 2) := by decide +kernel
theorem d_MA_placeBehind_51 : decode b_MA_placeBehind 51 = .ok (.bipush 97, 2) := by decide +kernel
theorem d_MA_placeBehind_53 : decode b_MA_placeBehind 53 = .ok (.isub, 1) := by decide +kernel
theorem d_MA_placeBehind_54 : decode b_MA_placeBehind 54 = .ok (.iload 6, 2) := by decide +kernel
theorem d_MA_placeBehind_56 : decode b_MA_placeBehind 56 = .ok (.invokevirtual 82, 3) := by decide +kernel
theorem d_MA_placeBehind_59 : decode b_MA_placeBehind 59 = .ok (.pop, 1) := by decide +kernel
theorem d_MA_placeBehind_60 : decode b_MA_placeBehind 60 = .ok (.iload 7, 2) := by decide +kernel
theorem d_MA_placeBehind_62 : decode b_MA_placeBehind 62 = .ok (.ireturn, 1) := by decide +kernel
theorem d_MA_placeBehind_63 : decode b_MA_placeBehind 63 = .ok (.iload 4, 2) := by decide +kernel
theorem d_MA_placeBehind_65 : decode b_MA_placeBehind 65 = .ok (.bipush 33, 2) := by decide +kernel
theorem d_MA_placeBehind_67 : decode b_MA_placeBehind 67 = .ok (.if_icmp .ne 12, 3) := by decide +kernel
theorem d_MA_placeBehind_70 : decode b_MA_placeBehind 70 = .ok (.aload_n 0, 1) := by decide +kernel
theorem d_MA_placeBehind_71 : decode b_MA_placeBehind 71 = .ok (.iload 6, 2) := by decide +kernel
theorem d_MA_placeBehind_73 : decode b_MA_placeBehind 73 = .ok (.invokevirtual 86, 3) := by decide +kernel
theorem d_MA_placeBehind_76 : decode b_MA_placeBehind 76 = .ok (.iload 7, 2) := by decide +kernel
theorem d_MA_placeBehind_78 : decode b_MA_placeBehind 78 = .ok (.ireturn, 1) := by decide +kernel
theorem d_MA_placeBehind_79 : decode b_MA_placeBehind 79 = .ok (.iload 6, 2) := by decide +kernel
theorem d_MA_placeBehind_81 : decode b_MA_placeBehind 81 = .ok (.ifCond .eq 8, 3) := by decide +kernel
theorem d_MA_placeBehind_84 : decode b_MA_placeBehind 84 = .ok (.iload 7, 2) := by decide +kernel
theorem d_MA_placeBehind_86 : decode b_MA_placeBehind 86 = .ok (.goto 8, 3) := by decide +kernel
theorem d_MA_placeBehind_89 : decode b_MA_placeBehind 89 = .ok (.aload_n 1, 1) := by decide +kernel
theorem d_MA_placeBehind_90 : decode b_MA_placeBehind 90 = .ok (.iload_n 2, 1) := by decide +kernel
theorem d_MA_placeBehind_91 : decode b_MA_placeBehind 91 = .ok (.invokevirtual 90, 3) := by decide +kernel
theorem d_MA_placeBehind_94 : decode b_MA_placeBehind 94 = .ok (.ireturn, 1) := by decide +kernel
