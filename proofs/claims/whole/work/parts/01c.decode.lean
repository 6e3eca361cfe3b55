theorem dX0_init_0 : decode cX0_init 0 = .ok (.aload_n 0, 1) := by decide +kernel
theorem dX0_init_1 : decode cX0_init 1 = .ok (.invokespecial 3, 3) := by decide +kernel
theorem dX0_init_4 : decode cX0_init 4 = .ok (.aload_n 0, 1) := by decide +kernel
theorem dX0_init_5 : decode cX0_init 5 = .ok (.aload_n 1, 1) := by decide +kernel
theorem dX0_init_6 : decode cX0_init 6 = .ok (.putfield 9, 3) := by decide +kernel
theorem dX0_init_9 : decode cX0_init 9 = .ok (.aload_n 0, 1) := by decide +kernel
theorem dX0_init_10 : decode cX0_init 10 = .ok (.aload_n 2, 1) := by decide +kernel
theorem dX0_init_11 : decode cX0_init 11 = .ok (.putfield 15, 3) := by decide +kernel
theorem dX0_init_14 : decode cX0_init 14 = .ok (.aload_n 0, 1) := by decide +kernel
theorem dX0_init_15 : decode cX0_init 15 = .ok (.aload_n 3, 1) := by decide +kernel
theorem dX0_init_16 : decode cX0_init 16 = .ok (.putfield 18, 3) := by decide +kernel
theorem dX0_init_19 : decode cX0_init 19 = .ok (.aload_n 0, 1) := by decide +kernel
theorem dX0_init_20 : decode cX0_init 20 = .ok (.iconst 0, 1) := by decide +kernel
theorem dX0_init_21 : decode cX0_init 21 = .ok (.putfield 21, 3) := by decide +kernel
theorem dX0_init_24 : decode cX0_init 24 = .ok (.aload_n 0, 1) := by decide +kernel
theorem dX0_init_25 : decode cX0_init 25 = .ok (.iconst 0, 1) := by decide +kernel
theorem dX0_init_26 : decode cX0_init 26 = .ok (.putfield 25, 3) := by decide +kernel
theorem dX0_init_29 : decode cX0_init 29 = .ok (.aload_n 0, 1) := by decide +kernel
theorem dX0_init_30 : decode cX0_init 30 = .ok (.iconst 0, 1) := by decide +kernel
theorem dX0_init_31 : decode cX0_init 31 = .ok (.putfield 28, 3) := by decide +kernel
theorem dX0_init_34 : decode cX0_init 34 = .ok (.aload_n 0, 1) := by decide +kernel
theorem dX0_init_35 : decode cX0_init 35 = .ok (.iconst 0, 1) := by decide +kernel
theorem dX0_init_36 : decode cX0_init 36 = .ok (.putfield 31, 3) := by decide +kernel
theorem dX0_init_39 : decode cX0_init 39 = .ok (.return_, 1) := by decide +kernel
theorem dX0_run_0 : decode cX0_run 0 = .ok (.aload_n 0, 1) := by decide +kernel
theorem dX0_run_1 : decode cX0_run 1 = .ok (.getfield 18, 3) := by decide +kernel
theorem dX0_run_4 : decode cX0_run 4 = .ok (.invokevirtual 34, 3) := by decide +kernel
theorem dX0_run_7 : decode cX0_run 7 = .ok (.aload_n 0, 1) := by decide +kernel
theorem dX0_run_8 : decode cX0_run 8 = .ok (.iconst 0, 1) := by decide +kernel
theorem dX0_run_9 : decode cX0_run 9 = .ok (.putfield 21, 3) := by decide +kernel
theorem dX0_run_12 : decode cX0_run 12 = .ok (.aload_n 0, 1) := by decide +kernel
theorem dX0_run_13 : decode cX0_run 13 = .ok (.iconst 0, 1) := by decide +kernel
theorem dX0_run_14 : decode cX0_run 14 = .ok (.putfield 25, 3) := by decide +kernel
theorem dX0_run_17 : decode cX0_run 17 = .ok (.aload_n 0, 1) := by decide +kernel
theorem dX0_run_18 : decode cX0_run 18 = .ok (.invokevirtual 39, 3) := by decide +kernel
theorem dX0_run_21 : decode cX0_run 21 = .ok (.istore_n 1, 1) := by decide +kernel
theorem dX0_run_22 : decode cX0_run 22 = .ok (.iload_n 1, 1) := by decide +kernel
theorem dX0_run_23 : decode cX0_run 23 = .ok (.ifCond .ne 8, 3) := by decide +kernel
theorem dX0_run_26 : decode cX0_run 26 = .ok (.aload_n 0, 1) := by decide +kernel
theorem dX0_run_27 : decode cX0_run 27 = .ok (.invokevirtual 43, 3) := by decide +kernel
theorem dX0_run_30 : decode cX0_run 30 = .ok (.istore_n 1, 1) := by decide +kernel
theorem dX0_run_31 : decode cX0_run 31 = .ok (.iload_n 1, 1) := by decide +kernel
theorem dX0_run_32 : decode cX0_run 32 = .ok (.ifCond .ne 8, 3) := by decide +kernel
theorem dX0_run_35 : decode cX0_run 35 = .ok (.aload_n 0, 1) := by decide +kernel
theorem dX0_run_36 : decode cX0_run 36 = .ok (.invokevirtual 46, 3) := by decide +kernel
theorem dX0_run_39 : decode cX0_run 39 = .ok (.istore_n 1, 1) := by decide +kernel
theorem dX0_run_40 : decode cX0_run 40 = .ok (.iload_n 1, 1) := by decide +kernel
theorem dX0_run_41 : decode cX0_run 41 = .ok (.ifCond .eq 12, 3) := by decide +kernel
theorem dX0_run_44 : decode cX0_run 44 = .ok (.aload_n 0, 1) := by decide +kernel
theorem dX0_run_45 : decode cX0_run 45 = .ok (.getfield 18, 3) := by decide +kernel
theorem dX0_run_48 : decode cX0_run 48 = .ok (.invokevirtual 34, 3) := by decide +kernel
theorem dX0_run_51 : decode cX0_run 51 = .ok (.iload_n 1, 1) := by decide +kernel
theorem dX0_run_52 : decode cX0_run 52 = .ok (.ireturn, 1) := by decide +kernel
theorem dX0_run_53 : decode cX0_run 53 = .ok (.aload_n 0, 1) := by decide +kernel
theorem dX0_run_54 : decode cX0_run 54 = .ok (.getfield 18, 3) := by decide +kernel
theorem dX0_run_57 : decode cX0_run 57 = .ok (.invokevirtual 49, 3) := by decide +kernel
theorem dX0_run_60 : decode cX0_run 60 = .ok (.ireturn, 1) := by decide +kernel
theorem dX0_readHead_0 : decode cX0_readHead 0 = .ok (.aload_n 0, 1) := by decide +kernel
theorem dX0_readHead_1 : decode cX0_readHead 1 = .ok (.invokevirtual 52, 3) := by decide +kernel
theorem dX0_readHead_4 : decode cX0_readHead 4 = .ok (.istore_n 1, 1) := by decide +kernel
theorem dX0_readHead_5 : decode cX0_readHead 5 = .ok (.iload_n 1, 1) := by decide +kernel
theorem dX0_readHead_6 : decode cX0_readHead 6 = .ok (.iconst (-1), 1) := by decide +kernel
theorem dX0_readHead_7 : decode cX0_readHead 7 = .ok (.if_icmp .ne 5, 3) := by decide +kernel
theorem dX0_readHead_10 : decode cX0_readHead 10 = .ok (.iconst (-1), 1) := by decide +kernel
theorem dX0_readHead_11 : decode cX0_readHead 11 = .ok (.ireturn, 1) := by decide +kernel
theorem dX0_readHead_12 : decode cX0_readHead 12 = .ok (.aload_n 0, 1) := by decide +kernel
theorem dX0_readHead_13 : decode cX0_readHead 13 = .ok (.aload_n 0, 1) := by decide +kernel
theorem dX0_readHead_14 : decode cX0_readHead 14 = .ok (.invokevirtual 52, 3) := by decide +kernel
theorem dX0_readHead_17 : decode cX0_readHead 17 = .ok (.putfield 28, 3) := by decide +kernel
theorem dX0_readHead_20 : decode cX0_readHead 20 = .ok (.aload_n 0, 1) := by decide +kernel
theorem dX0_readHead_21 : decode cX0_readHead 21 = .ok (.getfield 28, 3) := by decide +kernel
theorem dX0_readHead_24 : decode cX0_readHead 24 = .ok (.iconst (-1), 1) := by decide +kernel
theorem dX0_readHead_25 : decode cX0_readHead 25 = .ok (.if_icmp .eq 12, 3) := by decide +kernel
theorem dX0_readHead_28 : decode cX0_readHead 28 = .ok (.aload_n 0, 1) := by decide +kernel
theorem dX0_readHead_29 : decode cX0_readHead 29 = .ok (.invokevirtual 55, 3) := by decide +kernel
theorem dX0_readHead_32 : decode cX0_readHead 32 = .ok (.bipush 8, 2) := by decide +kernel
theorem dX0_readHead_34 : decode cX0_readHead 34 = .ok (.if_icmp .ge 5, 3) := by decide +kernel
theorem dX0_readHead_37 : decode cX0_readHead 37 = .ok (.iconst (-1), 1) := by decide +kernel
theorem dX0_readHead_38 : decode cX0_readHead 38 = .ok (.ireturn, 1) := by decide +kernel
theorem dX0_readHead_39 : decode cX0_readHead 39 = .ok (.aload_n 0, 1) := by decide +kernel
theorem dX0_readHead_40 : decode cX0_readHead 40 = .ok (.invokevirtual 58, 3) := by decide +kernel
theorem dX0_readHead_43 : decode cX0_readHead 43 = .ok (.istore_n 2, 1) := by decide +kernel
theorem dX0_readHead_44 : decode cX0_readHead 44 = .ok (.aload_n 0, 1) := by decide +kernel
theorem dX0_readHead_45 : decode cX0_readHead 45 = .ok (.aload_n 0, 1) := by decide +kernel
theorem dX0_readHead_46 : decode cX0_readHead 46 = .ok (.invokevirtual 58, 3) := by decide +kernel
theorem dX0_readHead_49 : decode cX0_readHead 49 = .ok (.putfield 31, 3) := by decide +kernel
theorem dX0_readHead_52 : decode cX0_readHead 52 = .ok (.iload_n 1, 1) := by decide +kernel
theorem dX0_readHead_53 : decode cX0_readHead 53 = .ok (.aload_n 0, 1) := by decide +kernel
theorem dX0_readHead_54 : decode cX0_readHead 54 = .ok (.getfield 15, 3) := by decide +kernel
theorem dX0_readHead_57 : decode cX0_readHead 57 = .ok (.invokevirtual 49, 3) := by decide +kernel
theorem dX0_readHead_60 : decode cX0_readHead 60 = .ok (.if_icmp .eq 6, 3) := by decide +kernel
theorem dX0_readHead_63 : decode cX0_readHead 63 = .ok (.bipush (-2), 2) := by decide +kernel
theorem dX0_readHead_65 : decode cX0_readHead 65 = .ok (.ireturn, 1) := by decide +kernel
theorem dX0_readHead_66 : decode cX0_readHead 66 = .ok (.iload_n 2, 1) := by decide +kernel
theorem dX0_readHead_67 : decode cX0_readHead 67 = .ok (.aload_n 0, 1) := by decide +kernel
theorem dX0_readHead_68 : decode cX0_readHead 68 = .ok (.getfield 15, 3) := by decide +kernel
theorem dX0_readHead_71 : decode cX0_readHead 71 = .ok (.invokevirtual 61, 3) := by decide +kernel
theorem dX0_readHead_74 : decode cX0_readHead 74 = .ok (.if_icmp .eq 6, 3) := by decide +kernel
theorem dX0_readHead_77 : decode cX0_readHead 77 = .ok (.bipush (-3), 2) := by decide +kernel
theorem dX0_readHead_79 : decode cX0_readHead 79 = .ok (.ireturn, 1) := by decide +kernel
theorem dX0_readHead_80 : decode cX0_readHead 80 = .ok (.aload_n 0, 1) := by decide +kernel
theorem dX0_readHead_81 : decode cX0_readHead 81 = .ok (.getfield 28, 3) := by decide +kernel
theorem dX0_readHead_84 : decode cX0_readHead 84 = .ok (.sipush 300, 3) := by decide +kernel
theorem dX0_readHead_87 : decode cX0_readHead 87 = .ok (.if_icmp .le 8, 3) := by decide +kernel
theorem dX0_readHead_90 : decode cX0_readHead 90 = .ok (.bipush (-4), 2) := by decide +kernel
theorem dX0_readHead_92 : decode cX0_readHead 92 = .ok (.goto 4, 3) := by decide +kernel
theorem dX0_readHead_95 : decode cX0_readHead 95 = .ok (.iconst 0, 1) := by decide +kernel
theorem dX0_readHead_96 : decode cX0_readHead 96 = .ok (.ireturn, 1) := by decide +kernel
theorem dX0_doAll_0 : decode cX0_doAll 0 = .ok (.iconst 0, 1) := by decide +kernel
theorem dX0_doAll_1 : decode cX0_doAll 1 = .ok (.istore_n 1, 1) := by decide +kernel
theorem dX0_doAll_2 : decode cX0_doAll 2 = .ok (.iconst 0, 1) := by decide +kernel
theorem dX0_doAll_3 : decode cX0_doAll 3 = .ok (.istore_n 2, 1) := by decide +kernel
theorem dX0_doAll_4 : decode cX0_doAll 4 = .ok (.iload_n 2, 1) := by decide +kernel
theorem dX0_doAll_5 : decode cX0_doAll 5 = .ok (.sipush 900, 3) := by decide +kernel
theorem dX0_doAll_8 : decode cX0_doAll 8 = .ok (.if_icmp .ge 25, 3) := by decide +kernel
theorem dX0_doAll_11 : decode cX0_doAll 11 = .ok (.iload_n 1, 1) := by decide +kernel
theorem dX0_doAll_12 : decode cX0_doAll 12 = .ok (.ifCond .ne 21, 3) := by decide +kernel
theorem dX0_doAll_15 : decode cX0_doAll 15 = .ok (.aload_n 0, 1) := by decide +kernel
theorem dX0_doAll_16 : decode cX0_doAll 16 = .ok (.invokevirtual 55, 3) := by decide +kernel
theorem dX0_doAll_19 : decode cX0_doAll 19 = .ok (.ifCond .le 14, 3) := by decide +kernel
theorem dX0_doAll_22 : decode cX0_doAll 22 = .ok (.aload_n 0, 1) := by decide +kernel
theorem dX0_doAll_23 : decode cX0_doAll 23 = .ok (.invokevirtual 64, 3) := by decide +kernel
theorem dX0_doAll_26 : decode cX0_doAll 26 = .ok (.istore_n 1, 1) := by decide +kernel
theorem dX0_doAll_27 : decode cX0_doAll 27 = .ok (.iinc 2 1, 3) := by decide +kernel
theorem dX0_doAll_30 : decode cX0_doAll 30 = .ok (.goto (-26), 3) := by decide +kernel
theorem dX0_doAll_33 : decode cX0_doAll 33 = .ok (.iload_n 1, 1) := by decide +kernel
theorem dX0_doAll_34 : decode cX0_doAll 34 = .ok (.ireturn, 1) := by decide +kernel
theorem dX0_doNext_0 : decode cX0_doNext 0 = .ok (.aload_n 0, 1) := by decide +kernel
theorem dX0_doNext_1 : decode cX0_doNext 1 = .ok (.invokevirtual 52, 3) := by decide +kernel
theorem dX0_doNext_4 : decode cX0_doNext 4 = .ok (.istore_n 1, 1) := by decide +kernel
theorem dX0_doNext_5 : decode cX0_doNext 5 = .ok (.iload_n 1, 1) := by decide +kernel
theorem dX0_doNext_6 : decode cX0_doNext 6 = .ok (.iconst (-1), 1) := by decide +kernel
theorem dX0_doNext_7 : decode cX0_doNext 7 = .ok (.if_icmp .ne 5, 3) := by decide +kernel
theorem dX0_doNext_10 : decode cX0_doNext 10 = .ok (.iconst (-1), 1) := by decide +kernel
theorem dX0_doNext_11 : decode cX0_doNext 11 = .ok (.ireturn, 1) := by decide +kernel
theorem dX0_doNext_12 : decode cX0_doNext 12 = .ok (.iload_n 1, 1) := by decide +kernel
theorem dX0_doNext_13 : decode cX0_doNext 13 = .ok (.iconst 1, 1) := by decide +kernel
theorem dX0_doNext_14 : decode cX0_doNext 14 = .ok (.iushr, 1) := by decide +kernel
theorem dX0_doNext_15 : decode cX0_doNext 15 = .ok (.istore_n 2, 1) := by decide +kernel
theorem dX0_doNext_16 : decode cX0_doNext 16 = .ok (.iload_n 2, 1) := by decide +kernel
theorem dX0_doNext_17 : decode cX0_doNext 17 = .ok (.ifCond .ne 5, 3) := by decide +kernel
theorem dX0_doNext_20 : decode cX0_doNext 20 = .ok (.iconst (-1), 1) := by decide +kernel
theorem dX0_doNext_21 : decode cX0_doNext 21 = .ok (.ireturn, 1) := by decide +kernel
theorem dX0_doNext_22 : decode cX0_doNext 22 = .ok (.iload_n 1, 1) := by decide +kernel
theorem dX0_doNext_23 : decode cX0_doNext 23 = .ok (.iconst 1, 1) := by decide +kernel
theorem dX0_doNext_24 : decode cX0_doNext 24 = .ok (.iand, 1) := by decide +kernel
theorem dX0_doNext_25 : decode cX0_doNext 25 = .ok (.ifCond .ne 11, 3) := by decide +kernel
theorem dX0_doNext_28 : decode cX0_doNext 28 = .ok (.aload_n 0, 1) := by decide +kernel
theorem dX0_doNext_29 : decode cX0_doNext 29 = .ok (.iload_n 2, 1) := by decide +kernel
theorem dX0_doNext_30 : decode cX0_doNext 30 = .ok (.invokevirtual 67, 3) := by decide +kernel
theorem dX0_doNext_33 : decode cX0_doNext 33 = .ok (.goto 8, 3) := by decide +kernel
theorem dX0_doNext_36 : decode cX0_doNext 36 = .ok (.aload_n 0, 1) := by decide +kernel
theorem dX0_doNext_37 : decode cX0_doNext 37 = .ok (.iload_n 2, 1) := by decide +kernel
theorem dX0_doNext_38 : decode cX0_doNext 38 = .ok (.invokevirtual 71, 3) := by decide +kernel
theorem dX0_doNext_41 : decode cX0_doNext 41 = .ok (.ireturn, 1) := by decide +kernel
theorem dX0_doAdd_0 : decode cX0_doAdd 0 = .ok (.aload_n 0, 1) := by decide +kernel
theorem dX0_doAdd_1 : decode cX0_doAdd 1 = .ok (.invokevirtual 55, 3) := by decide +kernel
theorem dX0_doAdd_4 : decode cX0_doAdd 4 = .ok (.iload_n 1, 1) := by decide +kernel
theorem dX0_doAdd_5 : decode cX0_doAdd 5 = .ok (.if_icmp .ge 5, 3) := by decide +kernel
theorem dX0_doAdd_8 : decode cX0_doAdd 8 = .ok (.iconst (-1), 1) := by decide +kernel
theorem dX0_doAdd_9 : decode cX0_doAdd 9 = .ok (.ireturn, 1) := by decide +kernel
theorem dX0_doAdd_10 : decode cX0_doAdd 10 = .ok (.iload_n 1, 1) := by decide +kernel
theorem dX0_doAdd_11 : decode cX0_doAdd 11 = .ok (.aload_n 0, 1) := by decide +kernel
theorem dX0_doAdd_12 : decode cX0_doAdd 12 = .ok (.getfield 28, 3) := by decide +kernel
theorem dX0_doAdd_15 : decode cX0_doAdd 15 = .ok (.aload_n 0, 1) := by decide +kernel
theorem dX0_doAdd_16 : decode cX0_doAdd 16 = .ok (.getfield 18, 3) := by decide +kernel
theorem dX0_doAdd_19 : decode cX0_doAdd 19 = .ok (.invokevirtual 49, 3) := by decide +kernel
theorem dX0_doAdd_22 : decode cX0_doAdd 22 = .ok (.isub, 1) := by decide +kernel
theorem dX0_doAdd_23 : decode cX0_doAdd 23 = .ok (.if_icmp .le 6, 3) := by decide +kernel
theorem dX0_doAdd_26 : decode cX0_doAdd 26 = .ok (.bipush (-6), 2) := by decide +kernel
theorem dX0_doAdd_28 : decode cX0_doAdd 28 = .ok (.ireturn, 1) := by decide +kernel
theorem dX0_doAdd_29 : decode cX0_doAdd 29 = .ok (.aload_n 0, 1) := by decide +kernel
theorem dX0_doAdd_30 : decode cX0_doAdd 30 = .ok (.getfield 18, 3) := by decide +kernel
theorem dX0_doAdd_33 : decode cX0_doAdd 33 = .ok (.aload_n 0, 1) := by decide +kernel
theorem dX0_doAdd_34 : decode cX0_doAdd 34 = .ok (.getfield 9, 3) := by decide +kernel
theorem dX0_doAdd_37 : decode cX0_doAdd 37 = .ok (.aload_n 0, 1) := by decide +kernel
theorem dX0_doAdd_38 : decode cX0_doAdd 38 = .ok (.getfield 21, 3) := by decide +kernel
theorem dX0_doAdd_41 : decode cX0_doAdd 41 = .ok (.iload_n 1, 1) := by decide +kernel
theorem dX0_doAdd_42 : decode cX0_doAdd 42 = .ok (.invokevirtual 74, 3) := by decide +kernel
theorem dX0_doAdd_45 : decode cX0_doAdd 45 = .ok (.aload_n 0, 1) := by decide +kernel
theorem dX0_doAdd_46 : decode cX0_doAdd 46 = .ok (.dup, 1) := by decide +kernel
theorem dX0_doAdd_47 : decode cX0_doAdd 47 = .ok (.getfield 21, 3) := by decide +kernel
theorem dX0_doAdd_50 : decode cX0_doAdd 50 = .ok (.iload_n 1, 1) := by decide +kernel
theorem dX0_doAdd_51 : decode cX0_doAdd 51 = .ok (.iadd, 1) := by decide +kernel
theorem dX0_doAdd_52 : decode cX0_doAdd 52 = .ok (.putfield 21, 3) := by decide +kernel
theorem dX0_doAdd_55 : decode cX0_doAdd 55 = .ok (.iconst 0, 1) := by decide +kernel
theorem dX0_doAdd_56 : decode cX0_doAdd 56 = .ok (.ireturn, 1) := by decide +kernel
theorem dX0_doCopy_0 : decode cX0_doCopy 0 = .ok (.aload_n 0, 1) := by decide +kernel
theorem dX0_doCopy_1 : decode cX0_doCopy 1 = .ok (.invokevirtual 52, 3) := by decide +kernel
theorem dX0_doCopy_4 : decode cX0_doCopy 4 = .ok (.istore_n 2, 1) := by decide +kernel
theorem dX0_doCopy_5 : decode cX0_doCopy 5 = .ok (.iload_n 2, 1) := by decide +kernel
theorem dX0_doCopy_6 : decode cX0_doCopy 6 = .ok (.iconst (-1), 1) := by decide +kernel
theorem dX0_doCopy_7 : decode cX0_doCopy 7 = .ok (.if_icmp .ne 5, 3) := by decide +kernel
theorem dX0_doCopy_10 : decode cX0_doCopy 10 = .ok (.iconst (-1), 1) := by decide +kernel
theorem dX0_doCopy_11 : decode cX0_doCopy 11 = .ok (.ireturn, 1) := by decide +kernel
theorem dX0_doCopy_12 : decode cX0_doCopy 12 = .ok (.aload_n 0, 1) := by decide +kernel
theorem dX0_doCopy_13 : decode cX0_doCopy 13 = .ok (.getfield 25, 3) := by decide +kernel
theorem dX0_doCopy_16 : decode cX0_doCopy 16 = .ok (.iload_n 2, 1) := by decide +kernel
theorem dX0_doCopy_17 : decode cX0_doCopy 17 = .ok (.invokestatic 78, 3) := by decide +kernel
theorem dX0_doCopy_20 : decode cX0_doCopy 20 = .ok (.iadd, 1) := by decide +kernel
theorem dX0_doCopy_21 : decode cX0_doCopy 21 = .ok (.istore_n 3, 1) := by decide +kernel
theorem dX0_doCopy_22 : decode cX0_doCopy 22 = .ok (.iload_n 3, 1) := by decide +kernel
theorem dX0_doCopy_23 : decode cX0_doCopy 23 = .ok (.ifCond .lt 16, 3) := by decide +kernel
theorem dX0_doCopy_26 : decode cX0_doCopy 26 = .ok (.iload_n 1, 1) := by decide +kernel
theorem dX0_doCopy_27 : decode cX0_doCopy 27 = .ok (.aload_n 0, 1) := by decide +kernel
theorem dX0_doCopy_28 : decode cX0_doCopy 28 = .ok (.getfield 15, 3) := by decide +kernel
theorem dX0_doCopy_31 : decode cX0_doCopy 31 = .ok (.invokevirtual 49, 3) := by decide +kernel
theorem dX0_doCopy_34 : decode cX0_doCopy 34 = .ok (.iload_n 3, 1) := by decide +kernel
theorem dX0_doCopy_35 : decode cX0_doCopy 35 = .ok (.isub, 1) := by decide +kernel
theorem dX0_doCopy_36 : decode cX0_doCopy 36 = .ok (.if_icmp .le 6, 3) := by decide +kernel
theorem dX0_doCopy_39 : decode cX0_doCopy 39 = .ok (.bipush (-5), 2) := by decide +kernel
theorem dX0_doCopy_41 : decode cX0_doCopy 41 = .ok (.ireturn, 1) := by decide +kernel
theorem dX0_doCopy_42 : decode cX0_doCopy 42 = .ok (.iload_n 1, 1) := by decide +kernel
theorem dX0_doCopy_43 : decode cX0_doCopy 43 = .ok (.aload_n 0, 1) := by decide +kernel
theorem dX0_doCopy_44 : decode cX0_doCopy 44 = .ok (.getfield 28, 3) := by decide +kernel
theorem dX0_doCopy_47 : decode cX0_doCopy 47 = .ok (.aload_n 0, 1) := by decide +kernel
theorem dX0_doCopy_48 : decode cX0_doCopy 48 = .ok (.getfield 18, 3) := by decide +kernel
theorem dX0_doCopy_51 : decode cX0_doCopy 51 = .ok (.invokevirtual 49, 3) := by decide +kernel
theorem dX0_doCopy_54 : decode cX0_doCopy 54 = .ok (.isub, 1) := by decide +kernel
theorem dX0_doCopy_55 : decode cX0_doCopy 55 = .ok (.if_icmp .le 6, 3) := by decide +kernel
theorem dX0_doCopy_58 : decode cX0_doCopy 58 = .ok (.bipush (-6), 2) := by decide +kernel
theorem dX0_doCopy_60 : decode cX0_doCopy 60 = .ok (.ireturn, 1) := by decide +kernel
theorem dX0_doCopy_61 : decode cX0_doCopy 61 = .ok (.aload_n 0, 1) := by decide +kernel
theorem dX0_doCopy_62 : decode cX0_doCopy 62 = .ok (.getfield 18, 3) := by decide +kernel
theorem dX0_doCopy_65 : decode cX0_doCopy 65 = .ok (.aload_n 0, 1) := by decide +kernel
theorem dX0_doCopy_66 : decode cX0_doCopy 66 = .ok (.getfield 15, 3) := by decide +kernel
theorem dX0_doCopy_69 : decode cX0_doCopy 69 = .ok (.iload_n 3, 1) := by decide +kernel
theorem dX0_doCopy_70 : decode cX0_doCopy 70 = .ok (.iload_n 1, 1) := by decide +kernel
theorem dX0_doCopy_71 : decode cX0_doCopy 71 = .ok (.invokevirtual 74, 3) := by decide +kernel
theorem dX0_doCopy_74 : decode cX0_doCopy 74 = .ok (.aload_n 0, 1) := by decide +kernel
theorem dX0_doCopy_75 : decode cX0_doCopy 75 = .ok (.iload_n 3, 1) := by decide +kernel
theorem dX0_doCopy_76 : decode cX0_doCopy 76 = .ok (.iload_n 1, 1) := by decide +kernel
theorem dX0_doCopy_77 : decode cX0_doCopy 77 = .ok (.iadd, 1) := by decide +kernel
theorem dX0_doCopy_78 : decode cX0_doCopy 78 = .ok (.putfield 25, 3) := by decide +kernel
theorem dX0_doCopy_81 : decode cX0_doCopy 81 = .ok (.iconst 0, 1) := by decide +kernel
theorem dX0_doCopy_82 : decode cX0_doCopy 82 = .ok (.ireturn, 1) := by decide +kernel
theorem dX0_judgeResult_0 : decode cX0_judgeResult 0 = .ok (.aload_n 0, 1) := by decide +kernel
theorem dX0_judgeResult_1 : decode cX0_judgeResult 1 = .ok (.getfield 18, 3) := by decide +kernel
theorem dX0_judgeResult_4 : decode cX0_judgeResult 4 = .ok (.invokevirtual 49, 3) := by decide +kernel
theorem dX0_judgeResult_7 : decode cX0_judgeResult 7 = .ok (.aload_n 0, 1) := by decide +kernel
theorem dX0_judgeResult_8 : decode cX0_judgeResult 8 = .ok (.getfield 28, 3) := by decide +kernel
theorem dX0_judgeResult_11 : decode cX0_judgeResult 11 = .ok (.if_icmp .ge 6, 3) := by decide +kernel
theorem dX0_judgeResult_14 : decode cX0_judgeResult 14 = .ok (.bipush (-7), 2) := by decide +kernel
theorem dX0_judgeResult_16 : decode cX0_judgeResult 16 = .ok (.ireturn, 1) := by decide +kernel
theorem dX0_judgeResult_17 : decode cX0_judgeResult 17 = .ok (.aload_n 0, 1) := by decide +kernel
theorem dX0_judgeResult_18 : decode cX0_judgeResult 18 = .ok (.getfield 18, 3) := by decide +kernel
theorem dX0_judgeResult_21 : decode cX0_judgeResult 21 = .ok (.invokevirtual 61, 3) := by decide +kernel
theorem dX0_judgeResult_24 : decode cX0_judgeResult 24 = .ok (.aload_n 0, 1) := by decide +kernel
theorem dX0_judgeResult_25 : decode cX0_judgeResult 25 = .ok (.getfield 31, 3) := by decide +kernel
theorem dX0_judgeResult_28 : decode cX0_judgeResult 28 = .ok (.if_icmp .ne 7, 3) := by decide +kernel
theorem dX0_judgeResult_31 : decode cX0_judgeResult 31 = .ok (.iconst 0, 1) := by decide +kernel
theorem dX0_judgeResult_32 : decode cX0_judgeResult 32 = .ok (.goto 5, 3) := by decide +kernel
theorem dX0_judgeResult_35 : decode cX0_judgeResult 35 = .ok (.bipush (-8), 2) := by decide +kernel
theorem dX0_judgeResult_37 : decode cX0_judgeResult 37 = .ok (.ireturn, 1) := by decide +kernel
theorem dX0_unread_0 : decode cX0_unread 0 = .ok (.aload_n 0, 1) := by decide +kernel
theorem dX0_unread_1 : decode cX0_unread 1 = .ok (.getfield 9, 3) := by decide +kernel
theorem dX0_unread_4 : decode cX0_unread 4 = .ok (.invokevirtual 49, 3) := by decide +kernel
theorem dX0_unread_7 : decode cX0_unread 7 = .ok (.aload_n 0, 1) := by decide +kernel
theorem dX0_unread_8 : decode cX0_unread 8 = .ok (.getfield 21, 3) := by decide +kernel
theorem dX0_unread_11 : decode cX0_unread 11 = .ok (.isub, 1) := by decide +kernel
theorem dX0_unread_12 : decode cX0_unread 12 = .ok (.ireturn, 1) := by decide +kernel
theorem dX0_readVarint_0 : decode cX0_readVarint 0 = .ok (.iconst 0, 1) := by decide +kernel
theorem dX0_readVarint_1 : decode cX0_readVarint 1 = .ok (.istore_n 1, 1) := by decide +kernel
theorem dX0_readVarint_2 : decode cX0_readVarint 2 = .ok (.iconst 0, 1) := by decide +kernel
theorem dX0_readVarint_3 : decode cX0_readVarint 3 = .ok (.istore_n 2, 1) := by decide +kernel
theorem dX0_readVarint_4 : decode cX0_readVarint 4 = .ok (.iload_n 2, 1) := by decide +kernel
theorem dX0_readVarint_5 : decode cX0_readVarint 5 = .ok (.iconst 4, 1) := by decide +kernel
theorem dX0_readVarint_6 : decode cX0_readVarint 6 = .ok (.if_icmp .ge 71, 3) := by decide +kernel
theorem dX0_readVarint_9 : decode cX0_readVarint 9 = .ok (.aload_n 0, 1) := by decide +kernel
theorem dX0_readVarint_10 : decode cX0_readVarint 10 = .ok (.getfield 9, 3) := by decide +kernel
theorem dX0_readVarint_13 : decode cX0_readVarint 13 = .ok (.aload_n 0, 1) := by decide +kernel
theorem dX0_readVarint_14 : decode cX0_readVarint 14 = .ok (.getfield 21, 3) := by decide +kernel
theorem dX0_readVarint_17 : decode cX0_readVarint 17 = .ok (.invokevirtual 81, 3) := by decide +kernel
theorem dX0_readVarint_20 : decode cX0_readVarint 20 = .ok (.istore_n 3, 1) := by decide +kernel
theorem dX0_readVarint_21 : decode cX0_readVarint 21 = .ok (.iload_n 3, 1) := by decide +kernel
theorem dX0_readVarint_22 : decode cX0_readVarint 22 = .ok (.iconst (-1), 1) := by decide +kernel
theorem dX0_readVarint_23 : decode cX0_readVarint 23 = .ok (.if_icmp .ne 5, 3) := by decide +kernel
theorem dX0_readVarint_26 : decode cX0_readVarint 26 = .ok (.iconst (-1), 1) := by decide +kernel
theorem dX0_readVarint_27 : decode cX0_readVarint 27 = .ok (.ireturn, 1) := by decide +kernel
theorem dX0_readVarint_28 : decode cX0_readVarint 28 = .ok (.aload_n 0, 1) := by decide +kernel
theorem dX0_readVarint_29 : decode cX0_readVarint 29 = .ok (.dup, 1) := by decide +kernel
theorem dX0_readVarint_30 : decode cX0_readVarint 30 = .ok (.getfield 21, 3) := by decide +kernel
theorem dX0_readVarint_33 : decode cX0_readVarint 33 = .ok (.iconst 1, 1) := by decide +kernel
theorem dX0_readVarint_34 : decode cX0_readVarint 34 = .ok (.iadd, 1) := by decide +kernel
theorem dX0_readVarint_35 : decode cX0_readVarint 35 = .ok (.putfield 21, 3) := by decide +kernel
theorem dX0_readVarint_38 : decode cX0_readVarint 38 = .ok (.iload_n 1, 1) := by decide +kernel
theorem dX0_readVarint_39 : decode cX0_readVarint 39 = .ok (.iload_n 3, 1) := by decide +kernel
theorem dX0_readVarint_40 : decode cX0_readVarint 40 = .ok (.bipush 127, 2) := by decide +kernel
theorem dX0_readVarint_42 : decode cX0_readVarint 42 = .ok (.iand, 1) := by decide +kernel
theorem dX0_readVarint_43 : decode cX0_readVarint 43 = .ok (.bipush 7, 2) := by decide +kernel
theorem dX0_readVarint_45 : decode cX0_readVarint 45 = .ok (.iload_n 2, 1) := by decide +kernel
theorem dX0_readVarint_46 : decode cX0_readVarint 46 = .ok (.imul, 1) := by decide +kernel
theorem dX0_readVarint_47 : decode cX0_readVarint 47 = .ok (.ishl, 1) := by decide +kernel
theorem dX0_readVarint_48 : decode cX0_readVarint 48 = .ok (.ior, 1) := by decide +kernel
theorem dX0_readVarint_49 : decode cX0_readVarint 49 = .ok (.istore_n 1, 1) := by decide +kernel
theorem dX0_readVarint_50 : decode cX0_readVarint 50 = .ok (.iload_n 3, 1) := by decide +kernel
theorem dX0_readVarint_51 : decode cX0_readVarint 51 = .ok (.sipush 128, 3) := by decide +kernel
theorem dX0_readVarint_54 : decode cX0_readVarint 54 = .ok (.if_icmp .ge 17, 3) := by decide +kernel
theorem dX0_readVarint_57 : decode cX0_readVarint 57 = .ok (.iload_n 3, 1) := by decide +kernel
theorem dX0_readVarint_58 : decode cX0_readVarint 58 = .ok (.ifCond .ne 11, 3) := by decide +kernel
theorem dX0_readVarint_61 : decode cX0_readVarint 61 = .ok (.iload_n 2, 1) := by decide +kernel
theorem dX0_readVarint_62 : decode cX0_readVarint 62 = .ok (.ifCond .le 7, 3) := by decide +kernel
theorem dX0_readVarint_65 : decode cX0_readVarint 65 = .ok (.iconst (-1), 1) := by decide +kernel
theorem dX0_readVarint_66 : decode cX0_readVarint 66 = .ok (.goto 4, 3) := by decide +kernel
theorem dX0_readVarint_69 : decode cX0_readVarint 69 = .ok (.iload_n 1, 1) := by decide +kernel
theorem dX0_readVarint_70 : decode cX0_readVarint 70 = .ok (.ireturn, 1) := by decide +kernel
theorem dX0_readVarint_71 : decode cX0_readVarint 71 = .ok (.iinc 2 1, 3) := by decide +kernel
theorem dX0_readVarint_74 : decode cX0_readVarint 74 = .ok (.goto (-70), 3) := by decide +kernel
theorem dX0_readVarint_77 : decode cX0_readVarint 77 = .ok (.iconst (-1), 1) := by decide +kernel
theorem dX0_readVarint_78 : decode cX0_readVarint 78 = .ok (.ireturn, 1) := by decide +kernel
theorem dX0_readWord_0 : decode cX0_readWord 0 = .ok (.iconst 0, 1) := by decide +kernel
theorem dX0_readWord_1 : decode cX0_readWord 1 = .ok (.istore_n 1, 1) := by decide +kernel
theorem dX0_readWord_2 : decode cX0_readWord 2 = .ok (.iconst 0, 1) := by decide +kernel
theorem dX0_readWord_3 : decode cX0_readWord 3 = .ok (.istore_n 2, 1) := by decide +kernel
theorem dX0_readWord_4 : decode cX0_readWord 4 = .ok (.iload_n 2, 1) := by decide +kernel
theorem dX0_readWord_5 : decode cX0_readWord 5 = .ok (.iconst 4, 1) := by decide +kernel
theorem dX0_readWord_6 : decode cX0_readWord 6 = .ok (.if_icmp .ge 40, 3) := by decide +kernel
theorem dX0_readWord_9 : decode cX0_readWord 9 = .ok (.iload_n 1, 1) := by decide +kernel
theorem dX0_readWord_10 : decode cX0_readWord 10 = .ok (.bipush 8, 2) := by decide +kernel
theorem dX0_readWord_12 : decode cX0_readWord 12 = .ok (.ishl, 1) := by decide +kernel
theorem dX0_readWord_13 : decode cX0_readWord 13 = .ok (.aload_n 0, 1) := by decide +kernel
theorem dX0_readWord_14 : decode cX0_readWord 14 = .ok (.getfield 9, 3) := by decide +kernel
theorem dX0_readWord_17 : decode cX0_readWord 17 = .ok (.aload_n 0, 1) := by decide +kernel
theorem dX0_readWord_18 : decode cX0_readWord 18 = .ok (.getfield 21, 3) := by decide +kernel
theorem dX0_readWord_21 : decode cX0_readWord 21 = .ok (.invokevirtual 81, 3) := by decide +kernel
theorem dX0_readWord_24 : decode cX0_readWord 24 = .ok (.sipush 255, 3) := by decide +kernel
theorem dX0_readWord_27 : decode cX0_readWord 27 = .ok (.iand, 1) := by decide +kernel
theorem dX0_readWord_28 : decode cX0_readWord 28 = .ok (.ior, 1) := by decide +kernel
theorem dX0_readWord_29 : decode cX0_readWord 29 = .ok (.istore_n 1, 1) := by decide +kernel
theorem dX0_readWord_30 : decode cX0_readWord 30 = .ok (.aload_n 0, 1) := by decide +kernel
theorem dX0_readWord_31 : decode cX0_readWord 31 = .ok (.dup, 1) := by decide +kernel
theorem dX0_readWord_32 : decode cX0_readWord 32 = .ok (.getfield 21, 3) := by decide +kernel
theorem dX0_readWord_35 : decode cX0_readWord 35 = .ok (.iconst 1, 1) := by decide +kernel
theorem dX0_readWord_36 : decode cX0_readWord 36 = .ok (.iadd, 1) := by decide +kernel
theorem dX0_readWord_37 : decode cX0_readWord 37 = .ok (.putfield 21, 3) := by decide +kernel
theorem dX0_readWord_40 : decode cX0_readWord 40 = .ok (.iinc 2 1, 3) := by decide +kernel
theorem dX0_readWord_43 : decode cX0_readWord 43 = .ok (.goto (-39), 3) := by decide +kernel
theorem dX0_readWord_46 : decode cX0_readWord 46 = .ok (.iload_n 1, 1) := by decide +kernel
theorem dX0_readWord_47 : decode cX0_readWord 47 = .ok (.ireturn, 1) := by decide +kernel
theorem dX0_withSign_0 : decode cX0_withSign 0 = .ok (.iload_n 0, 1) := by decide +kernel
theorem dX0_withSign_1 : decode cX0_withSign 1 = .ok (.iconst 1, 1) := by decide +kernel
theorem dX0_withSign_2 : decode cX0_withSign 2 = .ok (.iand, 1) := by decide +kernel
theorem dX0_withSign_3 : decode cX0_withSign 3 = .ok (.ifCond .ne 9, 3) := by decide +kernel
theorem dX0_withSign_6 : decode cX0_withSign 6 = .ok (.iload_n 0, 1) := by decide +kernel
theorem dX0_withSign_7 : decode cX0_withSign 7 = .ok (.iconst 1, 1) := by decide +kernel
theorem dX0_withSign_8 : decode cX0_withSign 8 = .ok (.iushr, 1) := by decide +kernel
theorem dX0_withSign_9 : decode cX0_withSign 9 = .ok (.goto 9, 3) := by decide +kernel
theorem dX0_withSign_12 : decode cX0_withSign 12 = .ok (.iload_n 0, 1) := by decide +kernel
theorem dX0_withSign_13 : decode cX0_withSign 13 = .ok (.iconst 1, 1) := by decide +kernel
theorem dX0_withSign_14 : decode cX0_withSign 14 = .ok (.iushr, 1) := by decide +kernel
theorem dX0_withSign_15 : decode cX0_withSign 15 = .ok (.ineg, 1) := by decide +kernel
theorem dX0_withSign_16 : decode cX0_withSign 16 = .ok (.iconst 1, 1) := by decide +kernel
theorem dX0_withSign_17 : decode cX0_withSign 17 = .ok (.isub, 1) := by decide +kernel
theorem dX0_withSign_18 : decode cX0_withSign 18 = .ok (.ireturn, 1) := by decide +kernel
theorem dX1_init_0 : decode cX1_init 0 = .ok (.aload_n 0, 1) := by decide +kernel
theorem dX1_init_1 : decode cX1_init 1 = .ok (.invokespecial 3, 3) := by decide +kernel
theorem dX1_init_4 : decode cX1_init 4 = .ok (.aload_n 0, 1) := by decide +kernel
theorem dX1_init_5 : decode cX1_init 5 = .ok (.aload_n 1, 1) := by decide +kernel
theorem dX1_init_6 : decode cX1_init 6 = .ok (.putfield 9, 3) := by decide +kernel
theorem dX1_init_9 : decode cX1_init 9 = .ok (.aload_n 0, 1) := by decide +kernel
theorem dX1_init_10 : decode cX1_init 10 = .ok (.aload_n 2, 1) := by decide +kernel
theorem dX1_init_11 : decode cX1_init 11 = .ok (.putfield 15, 3) := by decide +kernel
theorem dX1_init_14 : decode cX1_init 14 = .ok (.aload_n 0, 1) := by decide +kernel
theorem dX1_init_15 : decode cX1_init 15 = .ok (.new 19, 3) := by decide +kernel
theorem dX1_init_18 : decode cX1_init 18 = .ok (.dup, 1) := by decide +kernel
theorem dX1_init_19 : decode cX1_init 19 = .ok (.sipush 300, 3) := by decide +kernel
theorem dX1_init_22 : decode cX1_init 22 = .ok (.invokespecial 21, 3) := by decide +kernel
theorem dX1_init_25 : decode cX1_init 25 = .ok (.putfield 24, 3) := by decide +kernel
theorem dX1_init_28 : decode cX1_init 28 = .ok (.aload_n 0, 1) := by decide +kernel
theorem dX1_init_29 : decode cX1_init 29 = .ok (.sipush 300, 3) := by decide +kernel
theorem dX1_init_32 : decode cX1_init 32 = .ok (.newarray .boolean, 2) := by decide +kernel
theorem dX1_init_34 : decode cX1_init 34 = .ok (.putfield 27, 3) := by decide +kernel
theorem dX1_init_37 : decode cX1_init 37 = .ok (.aload_n 0, 1) := by decide +kernel
theorem dX1_init_38 : decode cX1_init 38 = .ok (.sipush 300, 3) := by decide +kernel
theorem dX1_init_41 : decode cX1_init 41 = .ok (.newarray .int, 2) := by decide +kernel
theorem dX1_init_43 : decode cX1_init 43 = .ok (.putfield 31, 3) := by decide +kernel
theorem dX1_init_46 : decode cX1_init 46 = .ok (.aload_n 0, 1) := by decide +kernel
theorem dX1_init_47 : decode cX1_init 47 = .ok (.sipush 300, 3) := by decide +kernel
theorem dX1_init_50 : decode cX1_init 50 = .ok (.newarray .int, 2) := by decide +kernel
theorem dX1_init_52 : decode cX1_init 52 = .ok (.putfield 35, 3) := by decide +kernel
theorem dX1_init_55 : decode cX1_init 55 = .ok (.aload_n 0, 1) := by decide +kernel
theorem dX1_init_56 : decode cX1_init 56 = .ok (.iconst 0, 1) := by decide +kernel
theorem dX1_init_57 : decode cX1_init 57 = .ok (.putfield 38, 3) := by decide +kernel
theorem dX1_init_60 : decode cX1_init 60 = .ok (.return_, 1) := by decide +kernel
theorem dX1_wasPutAside_0 : decode cX1_wasPutAside 0 = .ok (.iload_n 1, 1) := by decide +kernel
theorem dX1_wasPutAside_1 : decode cX1_wasPutAside 1 = .ok (.ifCond .lt 23, 3) := by decide +kernel
theorem dX1_wasPutAside_4 : decode cX1_wasPutAside 4 = .ok (.iload_n 1, 1) := by decide +kernel
theorem dX1_wasPutAside_5 : decode cX1_wasPutAside 5 = .ok (.sipush 300, 3) := by decide +kernel
theorem dX1_wasPutAside_8 : decode cX1_wasPutAside 8 = .ok (.if_icmp .ge 16, 3) := by decide +kernel
theorem dX1_wasPutAside_11 : decode cX1_wasPutAside 11 = .ok (.aload_n 0, 1) := by decide +kernel
theorem dX1_wasPutAside_12 : decode cX1_wasPutAside 12 = .ok (.getfield 27, 3) := by decide +kernel
theorem dX1_wasPutAside_15 : decode cX1_wasPutAside 15 = .ok (.iload_n 1, 1) := by decide +kernel
theorem dX1_wasPutAside_16 : decode cX1_wasPutAside 16 = .ok (.baload, 1) := by decide +kernel
theorem dX1_wasPutAside_17 : decode cX1_wasPutAside 17 = .ok (.ifCond .eq 7, 3) := by decide +kernel
theorem dX1_wasPutAside_20 : decode cX1_wasPutAside 20 = .ok (.iconst 1, 1) := by decide +kernel
theorem dX1_wasPutAside_21 : decode cX1_wasPutAside 21 = .ok (.goto 4, 3) := by decide +kernel
theorem dX1_wasPutAside_24 : decode cX1_wasPutAside 24 = .ok (.iconst 0, 1) := by decide +kernel
theorem dX1_wasPutAside_25 : decode cX1_wasPutAside 25 = .ok (.ireturn, 1) := by decide +kernel
theorem dX1_turnOf_0 : decode cX1_turnOf 0 = .ok (.iload_n 1, 1) := by decide +kernel
theorem dX1_turnOf_1 : decode cX1_turnOf 1 = .ok (.ifCond .lt 19, 3) := by decide +kernel
theorem dX1_turnOf_4 : decode cX1_turnOf 4 = .ok (.iload_n 1, 1) := by decide +kernel
theorem dX1_turnOf_5 : decode cX1_turnOf 5 = .ok (.sipush 300, 3) := by decide +kernel
theorem dX1_turnOf_8 : decode cX1_turnOf 8 = .ok (.if_icmp .ge 12, 3) := by decide +kernel
theorem dX1_turnOf_11 : decode cX1_turnOf 11 = .ok (.aload_n 0, 1) := by decide +kernel
theorem dX1_turnOf_12 : decode cX1_turnOf 12 = .ok (.getfield 31, 3) := by decide +kernel
theorem dX1_turnOf_15 : decode cX1_turnOf 15 = .ok (.iload_n 1, 1) := by decide +kernel
theorem dX1_turnOf_16 : decode cX1_turnOf 16 = .ok (.iaload, 1) := by decide +kernel
theorem dX1_turnOf_17 : decode cX1_turnOf 17 = .ok (.goto 4, 3) := by decide +kernel
theorem dX1_turnOf_20 : decode cX1_turnOf 20 = .ok (.iconst (-1), 1) := by decide +kernel
theorem dX1_turnOf_21 : decode cX1_turnOf 21 = .ok (.ireturn, 1) := by decide +kernel
theorem dX1_forget_0 : decode cX1_forget 0 = .ok (.aload_n 0, 1) := by decide +kernel
theorem dX1_forget_1 : decode cX1_forget 1 = .ok (.iconst 0, 1) := by decide +kernel
theorem dX1_forget_2 : decode cX1_forget 2 = .ok (.putfield 38, 3) := by decide +kernel
theorem dX1_forget_5 : decode cX1_forget 5 = .ok (.iconst 0, 1) := by decide +kernel
theorem dX1_forget_6 : decode cX1_forget 6 = .ok (.istore_n 1, 1) := by decide +kernel
theorem dX1_forget_7 : decode cX1_forget 7 = .ok (.iload_n 1, 1) := by decide +kernel
theorem dX1_forget_8 : decode cX1_forget 8 = .ok (.sipush 300, 3) := by decide +kernel
theorem dX1_forget_11 : decode cX1_forget 11 = .ok (.if_icmp .ge 30, 3) := by decide +kernel
theorem dX1_forget_14 : decode cX1_forget 14 = .ok (.aload_n 0, 1) := by decide +kernel
theorem dX1_forget_15 : decode cX1_forget 15 = .ok (.getfield 27, 3) := by decide +kernel
theorem dX1_forget_18 : decode cX1_forget 18 = .ok (.iload_n 1, 1) := by decide +kernel
theorem dX1_forget_19 : decode cX1_forget 19 = .ok (.iconst 0, 1) := by decide +kernel
theorem dX1_forget_20 : decode cX1_forget 20 = .ok (.bastore, 1) := by decide +kernel
theorem dX1_forget_21 : decode cX1_forget 21 = .ok (.aload_n 0, 1) := by decide +kernel
theorem dX1_forget_22 : decode cX1_forget 22 = .ok (.getfield 31, 3) := by decide +kernel
theorem dX1_forget_25 : decode cX1_forget 25 = .ok (.iload_n 1, 1) := by decide +kernel
theorem dX1_forget_26 : decode cX1_forget 26 = .ok (.iconst (-1), 1) := by decide +kernel
theorem dX1_forget_27 : decode cX1_forget 27 = .ok (.iastore, 1) := by decide +kernel
theorem dX1_forget_28 : decode cX1_forget 28 = .ok (.aload_n 0, 1) := by decide +kernel
theorem dX1_forget_29 : decode cX1_forget 29 = .ok (.getfield 35, 3) := by decide +kernel
theorem dX1_forget_32 : decode cX1_forget 32 = .ok (.iload_n 1, 1) := by decide +kernel
theorem dX1_forget_33 : decode cX1_forget 33 = .ok (.iconst 0, 1) := by decide +kernel
theorem dX1_forget_34 : decode cX1_forget 34 = .ok (.iastore, 1) := by decide +kernel
theorem dX1_forget_35 : decode cX1_forget 35 = .ok (.iinc 1 1, 3) := by decide +kernel
theorem dX1_forget_38 : decode cX1_forget 38 = .ok (.goto (-31), 3) := by decide +kernel
theorem dX1_forget_41 : decode cX1_forget 41 = .ok (.return_, 1) := by decide +kernel
theorem dX1_run_0 : decode cX1_run 0 = .ok (.aload_n 0, 1) := by decide +kernel
theorem dX1_run_1 : decode cX1_run 1 = .ok (.invokevirtual 42, 3) := by decide +kernel
theorem dX1_run_4 : decode cX1_run 4 = .ok (.aload_n 0, 1) := by decide +kernel
theorem dX1_run_5 : decode cX1_run 5 = .ok (.getfield 15, 3) := by decide +kernel
theorem dX1_run_8 : decode cX1_run 8 = .ok (.aload_n 0, 1) := by decide +kernel
theorem dX1_run_9 : decode cX1_run 9 = .ok (.getfield 9, 3) := by decide +kernel
theorem dX1_run_12 : decode cX1_run 12 = .ok (.invokevirtual 45, 3) := by decide +kernel
theorem dX1_run_15 : decode cX1_run 15 = .ok (.invokevirtual 51, 3) := by decide +kernel
theorem dX1_run_18 : decode cX1_run 18 = .ok (.aload_n 0, 1) := by decide +kernel
theorem dX1_run_19 : decode cX1_run 19 = .ok (.getfield 15, 3) := by decide +kernel
theorem dX1_run_22 : decode cX1_run 22 = .ok (.aload_n 0, 1) := by decide +kernel
theorem dX1_run_23 : decode cX1_run 23 = .ok (.getfield 9, 3) := by decide +kernel
theorem dX1_run_26 : decode cX1_run 26 = .ok (.invokevirtual 45, 3) := by decide +kernel
theorem dX1_run_29 : decode cX1_run 29 = .ok (.invokevirtual 55, 3) := by decide +kernel
theorem dX1_run_32 : decode cX1_run 32 = .ok (.aload_n 0, 1) := by decide +kernel
theorem dX1_run_33 : decode cX1_run 33 = .ok (.getfield 9, 3) := by decide +kernel
theorem dX1_run_36 : decode cX1_run 36 = .ok (.invokevirtual 59, 3) := by decide +kernel
theorem dX1_run_39 : decode cX1_run 39 = .ok (.invokevirtual 55, 3) := by decide +kernel
theorem dX1_run_42 : decode cX1_run 42 = .ok (.invokestatic 62, 3) := by decide +kernel
theorem dX1_run_45 : decode cX1_run 45 = .ok (.invokevirtual 68, 3) := by decide +kernel
theorem dX1_run_48 : decode cX1_run 48 = .ok (.aload_n 0, 1) := by decide +kernel
theorem dX1_run_49 : decode cX1_run 49 = .ok (.getfield 24, 3) := by decide +kernel
theorem dX1_run_52 : decode cX1_run 52 = .ok (.aload_n 0, 1) := by decide +kernel
theorem dX1_run_53 : decode cX1_run 53 = .ok (.getfield 9, 3) := by decide +kernel
theorem dX1_run_56 : decode cX1_run 56 = .ok (.invokevirtual 59, 3) := by decide +kernel
theorem dX1_run_59 : decode cX1_run 59 = .ok (.invokevirtual 55, 3) := by decide +kernel
theorem dX1_run_62 : decode cX1_run 62 = .ok (.invokevirtual 68, 3) := by decide +kernel
theorem dX1_run_65 : decode cX1_run 65 = .ok (.aload_n 0, 1) := by decide +kernel
theorem dX1_run_66 : decode cX1_run 66 = .ok (.invokevirtual 71, 3) := by decide +kernel
theorem dX1_run_69 : decode cX1_run 69 = .ok (.iconst 0, 1) := by decide +kernel
theorem dX1_run_70 : decode cX1_run 70 = .ok (.istore_n 1, 1) := by decide +kernel
theorem dX1_run_71 : decode cX1_run 71 = .ok (.iconst 0, 1) := by decide +kernel
theorem dX1_run_72 : decode cX1_run 72 = .ok (.istore_n 2, 1) := by decide +kernel
theorem dX1_run_73 : decode cX1_run 73 = .ok (.iload_n 2, 1) := by decide +kernel
theorem dX1_run_74 : decode cX1_run 74 = .ok (.sipush 600, 3) := by decide +kernel
theorem dX1_run_77 : decode cX1_run 77 = .ok (.if_icmp .ge 52, 3) := by decide +kernel
theorem dX1_run_80 : decode cX1_run 80 = .ok (.aload_n 0, 1) := by decide +kernel
theorem dX1_run_81 : decode cX1_run 81 = .ok (.getfield 38, 3) := by decide +kernel
theorem dX1_run_84 : decode cX1_run 84 = .ok (.aload_n 0, 1) := by decide +kernel
theorem dX1_run_85 : decode cX1_run 85 = .ok (.getfield 9, 3) := by decide +kernel
theorem dX1_run_88 : decode cX1_run 88 = .ok (.invokevirtual 74, 3) := by decide +kernel
theorem dX1_run_91 : decode cX1_run 91 = .ok (.if_icmp .ge 38, 3) := by decide +kernel
theorem dX1_run_94 : decode cX1_run 94 = .ok (.aload_n 0, 1) := by decide +kernel
theorem dX1_run_95 : decode cX1_run 95 = .ok (.invokevirtual 75, 3) := by decide +kernel
theorem dX1_run_98 : decode cX1_run 98 = .ok (.istore_n 3, 1) := by decide +kernel
theorem dX1_run_99 : decode cX1_run 99 = .ok (.iload_n 3, 1) := by decide +kernel
theorem dX1_run_100 : decode cX1_run 100 = .ok (.iconst (-1), 1) := by decide +kernel
theorem dX1_run_101 : decode cX1_run 101 = .ok (.if_icmp .eq 11, 3) := by decide +kernel
theorem dX1_run_104 : decode cX1_run 104 = .ok (.aload_n 0, 1) := by decide +kernel
theorem dX1_run_105 : decode cX1_run 105 = .ok (.iload_n 3, 1) := by decide +kernel
theorem dX1_run_106 : decode cX1_run 106 = .ok (.invokevirtual 78, 3) := by decide +kernel
theorem dX1_run_109 : decode cX1_run 109 = .ok (.goto 14, 3) := by decide +kernel
theorem dX1_run_112 : decode cX1_run 112 = .ok (.iload_n 1, 1) := by decide +kernel
theorem dX1_run_113 : decode cX1_run 113 = .ok (.aload_n 0, 1) := by decide +kernel
theorem dX1_run_114 : decode cX1_run 114 = .ok (.aload_n 0, 1) := by decide +kernel
theorem dX1_run_115 : decode cX1_run 115 = .ok (.invokevirtual 81, 3) := by decide +kernel
theorem dX1_run_118 : decode cX1_run 118 = .ok (.invokevirtual 84, 3) := by decide +kernel
theorem dX1_run_121 : decode cX1_run 121 = .ok (.iadd, 1) := by decide +kernel
theorem dX1_run_122 : decode cX1_run 122 = .ok (.istore_n 1, 1) := by decide +kernel
theorem dX1_run_123 : decode cX1_run 123 = .ok (.iinc 2 1, 3) := by decide +kernel
theorem dX1_run_126 : decode cX1_run 126 = .ok (.goto (-53), 3) := by decide +kernel
theorem dX1_run_129 : decode cX1_run 129 = .ok (.aload_n 0, 1) := by decide +kernel
theorem dX1_run_130 : decode cX1_run 130 = .ok (.getfield 15, 3) := by decide +kernel
theorem dX1_run_133 : decode cX1_run 133 = .ok (.aload_n 0, 1) := by decide +kernel
theorem dX1_run_134 : decode cX1_run 134 = .ok (.getfield 9, 3) := by decide +kernel
theorem dX1_run_137 : decode cX1_run 137 = .ok (.invokevirtual 59, 3) := by decide +kernel
theorem dX1_run_140 : decode cX1_run 140 = .ok (.invokevirtual 55, 3) := by decide +kernel
theorem dX1_run_143 : decode cX1_run 143 = .ok (.invokevirtual 68, 3) := by decide +kernel
theorem dX1_run_146 : decode cX1_run 146 = .ok (.iload_n 1, 1) := by decide +kernel
theorem dX1_run_147 : decode cX1_run 147 = .ok (.ireturn, 1) := by decide +kernel
theorem dX1_countBlockers_0 : decode cX1_countBlockers 0 = .ok (.iconst 0, 1) := by decide +kernel
theorem dX1_countBlockers_1 : decode cX1_countBlockers 1 = .ok (.istore_n 1, 1) := by decide +kernel
theorem dX1_countBlockers_2 : decode cX1_countBlockers 2 = .ok (.iload_n 1, 1) := by decide +kernel
theorem dX1_countBlockers_3 : decode cX1_countBlockers 3 = .ok (.aload_n 0, 1) := by decide +kernel
theorem dX1_countBlockers_4 : decode cX1_countBlockers 4 = .ok (.getfield 9, 3) := by decide +kernel
theorem dX1_countBlockers_7 : decode cX1_countBlockers 7 = .ok (.invokevirtual 74, 3) := by decide +kernel
theorem dX1_countBlockers_10 : decode cX1_countBlockers 10 = .ok (.if_icmp .ge 26, 3) := by decide +kernel
theorem dX1_countBlockers_13 : decode cX1_countBlockers 13 = .ok (.aload_n 0, 1) := by decide +kernel
theorem dX1_countBlockers_14 : decode cX1_countBlockers 14 = .ok (.getfield 9, 3) := by decide +kernel
theorem dX1_countBlockers_17 : decode cX1_countBlockers 17 = .ok (.iload_n 1, 1) := by decide +kernel
theorem dX1_countBlockers_18 : decode cX1_countBlockers 18 = .ok (.invokevirtual 88, 3) := by decide +kernel
theorem dX1_countBlockers_21 : decode cX1_countBlockers 21 = .ok (.ifCond .eq 9, 3) := by decide +kernel
theorem dX1_countBlockers_24 : decode cX1_countBlockers 24 = .ok (.aload_n 0, 1) := by decide +kernel
theorem dX1_countBlockers_25 : decode cX1_countBlockers 25 = .ok (.iload_n 1, 1) := by decide +kernel
theorem dX1_countBlockers_26 : decode cX1_countBlockers 26 = .ok (.iconst 1, 1) := by decide +kernel
theorem dX1_countBlockers_27 : decode cX1_countBlockers 27 = .ok (.invokevirtual 92, 3) := by decide +kernel
theorem dX1_countBlockers_30 : decode cX1_countBlockers 30 = .ok (.iinc 1 1, 3) := by decide +kernel
theorem dX1_countBlockers_33 : decode cX1_countBlockers 33 = .ok (.goto (-31), 3) := by decide +kernel
theorem dX1_countBlockers_36 : decode cX1_countBlockers 36 = .ok (.return_, 1) := by decide +kernel
theorem dX1_changeBlockers_0 : decode cX1_changeBlockers 0 = .ok (.iconst 0, 1) := by decide +kernel
theorem dX1_changeBlockers_1 : decode cX1_changeBlockers 1 = .ok (.istore_n 3, 1) := by decide +kernel
theorem dX1_changeBlockers_2 : decode cX1_changeBlockers 2 = .ok (.iload_n 3, 1) := by decide +kernel
theorem dX1_changeBlockers_3 : decode cX1_changeBlockers 3 = .ok (.aload_n 0, 1) := by decide +kernel
theorem dX1_changeBlockers_4 : decode cX1_changeBlockers 4 = .ok (.getfield 9, 3) := by decide +kernel
theorem dX1_changeBlockers_7 : decode cX1_changeBlockers 7 = .ok (.invokevirtual 74, 3) := by decide +kernel
theorem dX1_changeBlockers_10 : decode cX1_changeBlockers 10 = .ok (.if_icmp .ge 43, 3) := by decide +kernel
theorem dX1_changeBlockers_13 : decode cX1_changeBlockers 13 = .ok (.iload_n 3, 1) := by decide +kernel
theorem dX1_changeBlockers_14 : decode cX1_changeBlockers 14 = .ok (.sipush 300, 3) := by decide +kernel
theorem dX1_changeBlockers_17 : decode cX1_changeBlockers 17 = .ok (.if_icmp .ge 36, 3) := by decide +kernel
theorem dX1_changeBlockers_20 : decode cX1_changeBlockers 20 = .ok (.iload_n 3, 1) := by decide +kernel
theorem dX1_changeBlockers_21 : decode cX1_changeBlockers 21 = .ok (.iload_n 1, 1) := by decide +kernel
theorem dX1_changeBlockers_22 : decode cX1_changeBlockers 22 = .ok (.if_icmp .eq 25, 3) := by decide +kernel
theorem dX1_changeBlockers_25 : decode cX1_changeBlockers 25 = .ok (.aload_n 0, 1) := by decide +kernel
theorem dX1_changeBlockers_26 : decode cX1_changeBlockers 26 = .ok (.getfield 9, 3) := by decide +kernel
theorem dX1_changeBlockers_29 : decode cX1_changeBlockers 29 = .ok (.iload_n 3, 1) := by decide +kernel
theorem dX1_changeBlockers_30 : decode cX1_changeBlockers 30 = .ok (.iload_n 1, 1) := by decide +kernel
theorem dX1_changeBlockers_31 : decode cX1_changeBlockers 31 = .ok (.invokevirtual 96, 3) := by decide +kernel
theorem dX1_changeBlockers_34 : decode cX1_changeBlockers 34 = .ok (.ifCond .eq 13, 3) := by decide +kernel
theorem dX1_changeBlockers_37 : decode cX1_changeBlockers 37 = .ok (.aload_n 0, 1) := by decide +kernel
theorem dX1_changeBlockers_38 : decode cX1_changeBlockers 38 = .ok (.getfield 35, 3) := by decide +kernel
theorem dX1_changeBlockers_41 : decode cX1_changeBlockers 41 = .ok (.iload_n 3, 1) := by decide +kernel
theorem dX1_changeBlockers_42 : decode cX1_changeBlockers 42 = .ok (.dup2, 1) := by decide +kernel
theorem dX1_changeBlockers_43 : decode cX1_changeBlockers 43 = .ok (.iaload, 1) := by decide +kernel
theorem dX1_changeBlockers_44 : decode cX1_changeBlockers 44 = .ok (.iload_n 2, 1) := by decide +kernel
theorem dX1_changeBlockers_45 : decode cX1_changeBlockers 45 = .ok (.iadd, 1) := by decide +kernel
theorem dX1_changeBlockers_46 : decode cX1_changeBlockers 46 = .ok (.iastore, 1) := by decide +kernel
theorem dX1_changeBlockers_47 : decode cX1_changeBlockers 47 = .ok (.iinc 3 1, 3) := by decide +kernel
theorem dX1_changeBlockers_50 : decode cX1_changeBlockers 50 = .ok (.goto (-48), 3) := by decide +kernel
theorem dX1_changeBlockers_53 : decode cX1_changeBlockers 53 = .ok (.return_, 1) := by decide +kernel
theorem dX1_nextFree_0 : decode cX1_nextFree 0 = .ok (.iconst 0, 1) := by decide +kernel
theorem dX1_nextFree_1 : decode cX1_nextFree 1 = .ok (.istore_n 1, 1) := by decide +kernel
theorem dX1_nextFree_2 : decode cX1_nextFree 2 = .ok (.iload_n 1, 1) := by decide +kernel
theorem dX1_nextFree_3 : decode cX1_nextFree 3 = .ok (.aload_n 0, 1) := by decide +kernel
theorem dX1_nextFree_4 : decode cX1_nextFree 4 = .ok (.getfield 9, 3) := by decide +kernel
theorem dX1_nextFree_7 : decode cX1_nextFree 7 = .ok (.invokevirtual 74, 3) := by decide +kernel
theorem dX1_nextFree_10 : decode cX1_nextFree 10 = .ok (.if_icmp .ge 37, 3) := by decide +kernel
theorem dX1_nextFree_13 : decode cX1_nextFree 13 = .ok (.iload_n 1, 1) := by decide +kernel
theorem dX1_nextFree_14 : decode cX1_nextFree 14 = .ok (.sipush 300, 3) := by decide +kernel
theorem dX1_nextFree_17 : decode cX1_nextFree 17 = .ok (.if_icmp .ge 30, 3) := by decide +kernel
theorem dX1_nextFree_20 : decode cX1_nextFree 20 = .ok (.aload_n 0, 1) := by decide +kernel
theorem dX1_nextFree_21 : decode cX1_nextFree 21 = .ok (.getfield 31, 3) := by decide +kernel
theorem dX1_nextFree_24 : decode cX1_nextFree 24 = .ok (.iload_n 1, 1) := by decide +kernel
theorem dX1_nextFree_25 : decode cX1_nextFree 25 = .ok (.iaload, 1) := by decide +kernel
theorem dX1_nextFree_26 : decode cX1_nextFree 26 = .ok (.iconst (-1), 1) := by decide +kernel
theorem dX1_nextFree_27 : decode cX1_nextFree 27 = .ok (.if_icmp .ne 14, 3) := by decide +kernel
theorem dX1_nextFree_30 : decode cX1_nextFree 30 = .ok (.aload_n 0, 1) := by decide +kernel
theorem dX1_nextFree_31 : decode cX1_nextFree 31 = .ok (.getfield 35, 3) := by decide +kernel
theorem dX1_nextFree_34 : decode cX1_nextFree 34 = .ok (.iload_n 1, 1) := by decide +kernel
theorem dX1_nextFree_35 : decode cX1_nextFree 35 = .ok (.iaload, 1) := by decide +kernel
theorem dX1_nextFree_36 : decode cX1_nextFree 36 = .ok (.ifCond .ne 5, 3) := by decide +kernel
theorem dX1_nextFree_39 : decode cX1_nextFree 39 = .ok (.iload_n 1, 1) := by decide +kernel
theorem dX1_nextFree_40 : decode cX1_nextFree 40 = .ok (.ireturn, 1) := by decide +kernel
theorem dX1_nextFree_41 : decode cX1_nextFree 41 = .ok (.iinc 1 1, 3) := by decide +kernel
theorem dX1_nextFree_44 : decode cX1_nextFree 44 = .ok (.goto (-42), 3) := by decide +kernel
theorem dX1_nextFree_47 : decode cX1_nextFree 47 = .ok (.iconst (-1), 1) := by decide +kernel
theorem dX1_nextFree_48 : decode cX1_nextFree 48 = .ok (.ireturn, 1) := by decide +kernel
theorem dX1_wantsMemory_0 : decode cX1_wantsMemory 0 = .ok (.aload_n 0, 1) := by decide +kernel
theorem dX1_wantsMemory_1 : decode cX1_wantsMemory 1 = .ok (.getfield 9, 3) := by decide +kernel
theorem dX1_wantsMemory_4 : decode cX1_wantsMemory 4 = .ok (.iload_n 1, 1) := by decide +kernel
theorem dX1_wantsMemory_5 : decode cX1_wantsMemory 5 = .ok (.invokevirtual 88, 3) := by decide +kernel
theorem dX1_wantsMemory_8 : decode cX1_wantsMemory 8 = .ok (.ifCond .eq 24, 3) := by decide +kernel
theorem dX1_wantsMemory_11 : decode cX1_wantsMemory 11 = .ok (.aload_n 0, 1) := by decide +kernel
theorem dX1_wantsMemory_12 : decode cX1_wantsMemory 12 = .ok (.iload_n 1, 1) := by decide +kernel
theorem dX1_wantsMemory_13 : decode cX1_wantsMemory 13 = .ok (.invokevirtual 100, 3) := by decide +kernel
theorem dX1_wantsMemory_16 : decode cX1_wantsMemory 16 = .ok (.iconst (-1), 1) := by decide +kernel
theorem dX1_wantsMemory_17 : decode cX1_wantsMemory 17 = .ok (.if_icmp .ne 15, 3) := by decide +kernel
theorem dX1_wantsMemory_20 : decode cX1_wantsMemory 20 = .ok (.aload_n 0, 1) := by decide +kernel
theorem dX1_wantsMemory_21 : decode cX1_wantsMemory 21 = .ok (.iload_n 1, 1) := by decide +kernel
theorem dX1_wantsMemory_22 : decode cX1_wantsMemory 22 = .ok (.invokevirtual 103, 3) := by decide +kernel
theorem dX1_wantsMemory_25 : decode cX1_wantsMemory 25 = .ok (.ifCond .ne 7, 3) := by decide +kernel
theorem dX1_wantsMemory_28 : decode cX1_wantsMemory 28 = .ok (.iconst 1, 1) := by decide +kernel
theorem dX1_wantsMemory_29 : decode cX1_wantsMemory 29 = .ok (.goto 4, 3) := by decide +kernel
theorem dX1_wantsMemory_32 : decode cX1_wantsMemory 32 = .ok (.iconst 0, 1) := by decide +kernel
theorem dX1_wantsMemory_33 : decode cX1_wantsMemory 33 = .ok (.ireturn, 1) := by decide +kernel
theorem dX1_fewestBytes_0 : decode cX1_fewestBytes 0 = .ok (.iconst (-1), 1) := by decide +kernel
theorem dX1_fewestBytes_1 : decode cX1_fewestBytes 1 = .ok (.istore_n 1, 1) := by decide +kernel
theorem dX1_fewestBytes_2 : decode cX1_fewestBytes 2 = .ok (.iconst 0, 1) := by decide +kernel
theorem dX1_fewestBytes_3 : decode cX1_fewestBytes 3 = .ok (.istore_n 2, 1) := by decide +kernel
theorem dX1_fewestBytes_4 : decode cX1_fewestBytes 4 = .ok (.iload_n 2, 1) := by decide +kernel
theorem dX1_fewestBytes_5 : decode cX1_fewestBytes 5 = .ok (.aload_n 0, 1) := by decide +kernel
theorem dX1_fewestBytes_6 : decode cX1_fewestBytes 6 = .ok (.getfield 9, 3) := by decide +kernel
theorem dX1_fewestBytes_9 : decode cX1_fewestBytes 9 = .ok (.invokevirtual 74, 3) := by decide +kernel
theorem dX1_fewestBytes_12 : decode cX1_fewestBytes 12 = .ok (.if_icmp .ge 43, 3) := by decide +kernel
theorem dX1_fewestBytes_15 : decode cX1_fewestBytes 15 = .ok (.aload_n 0, 1) := by decide +kernel
theorem dX1_fewestBytes_16 : decode cX1_fewestBytes 16 = .ok (.iload_n 2, 1) := by decide +kernel
theorem dX1_fewestBytes_17 : decode cX1_fewestBytes 17 = .ok (.invokevirtual 106, 3) := by decide +kernel
theorem dX1_fewestBytes_20 : decode cX1_fewestBytes 20 = .ok (.ifCond .eq 29, 3) := by decide +kernel
theorem dX1_fewestBytes_23 : decode cX1_fewestBytes 23 = .ok (.iload_n 1, 1) := by decide +kernel
theorem dX1_fewestBytes_24 : decode cX1_fewestBytes 24 = .ok (.iconst (-1), 1) := by decide +kernel
theorem dX1_fewestBytes_25 : decode cX1_fewestBytes 25 = .ok (.if_icmp .eq 22, 3) := by decide +kernel
theorem dX1_fewestBytes_28 : decode cX1_fewestBytes 28 = .ok (.aload_n 0, 1) := by decide +kernel
theorem dX1_fewestBytes_29 : decode cX1_fewestBytes 29 = .ok (.getfield 9, 3) := by decide +kernel
theorem dX1_fewestBytes_32 : decode cX1_fewestBytes 32 = .ok (.iload_n 2, 1) := by decide +kernel
theorem dX1_fewestBytes_33 : decode cX1_fewestBytes 33 = .ok (.invokevirtual 109, 3) := by decide +kernel
theorem dX1_fewestBytes_36 : decode cX1_fewestBytes 36 = .ok (.aload_n 0, 1) := by decide +kernel
theorem dX1_fewestBytes_37 : decode cX1_fewestBytes 37 = .ok (.getfield 9, 3) := by decide +kernel
theorem dX1_fewestBytes_40 : decode cX1_fewestBytes 40 = .ok (.iload_n 1, 1) := by decide +kernel
theorem dX1_fewestBytes_41 : decode cX1_fewestBytes 41 = .ok (.invokevirtual 109, 3) := by decide +kernel
theorem dX1_fewestBytes_44 : decode cX1_fewestBytes 44 = .ok (.if_icmp .ge 5, 3) := by decide +kernel
theorem dX1_fewestBytes_47 : decode cX1_fewestBytes 47 = .ok (.iload_n 2, 1) := by decide +kernel
theorem dX1_fewestBytes_48 : decode cX1_fewestBytes 48 = .ok (.istore_n 1, 1) := by decide +kernel
theorem dX1_fewestBytes_49 : decode cX1_fewestBytes 49 = .ok (.iinc 2 1, 3) := by decide +kernel
theorem dX1_fewestBytes_52 : decode cX1_fewestBytes 52 = .ok (.goto (-48), 3) := by decide +kernel
theorem dX1_fewestBytes_55 : decode cX1_fewestBytes 55 = .ok (.iload_n 1, 1) := by decide +kernel
theorem dX1_fewestBytes_56 : decode cX1_fewestBytes 56 = .ok (.ireturn, 1) := by decide +kernel
theorem dX1_putAside_0 : decode cX1_putAside 0 = .ok (.iload_n 1, 1) := by decide +kernel
theorem dX1_putAside_1 : decode cX1_putAside 1 = .ok (.ifCond .lt 10, 3) := by decide +kernel
theorem dX1_putAside_4 : decode cX1_putAside 4 = .ok (.iload_n 1, 1) := by decide +kernel
theorem dX1_putAside_5 : decode cX1_putAside 5 = .ok (.sipush 300, 3) := by decide +kernel
theorem dX1_putAside_8 : decode cX1_putAside 8 = .ok (.if_icmp .lt 5, 3) := by decide +kernel
theorem dX1_putAside_11 : decode cX1_putAside 11 = .ok (.iconst 0, 1) := by decide +kernel
theorem dX1_putAside_12 : decode cX1_putAside 12 = .ok (.ireturn, 1) := by decide +kernel
theorem dX1_putAside_13 : decode cX1_putAside 13 = .ok (.aload_n 0, 1) := by decide +kernel
theorem dX1_putAside_14 : decode cX1_putAside 14 = .ok (.iload_n 1, 1) := by decide +kernel
theorem dX1_putAside_15 : decode cX1_putAside 15 = .ok (.invokevirtual 112, 3) := by decide +kernel
theorem dX1_putAside_18 : decode cX1_putAside 18 = .ok (.aload_n 0, 1) := by decide +kernel
theorem dX1_putAside_19 : decode cX1_putAside 19 = .ok (.getfield 27, 3) := by decide +kernel
theorem dX1_putAside_22 : decode cX1_putAside 22 = .ok (.iload_n 1, 1) := by decide +kernel
theorem dX1_putAside_23 : decode cX1_putAside 23 = .ok (.iconst 1, 1) := by decide +kernel
theorem dX1_putAside_24 : decode cX1_putAside 24 = .ok (.bastore, 1) := by decide +kernel
theorem dX1_putAside_25 : decode cX1_putAside 25 = .ok (.aload_n 0, 1) := by decide +kernel
theorem dX1_putAside_26 : decode cX1_putAside 26 = .ok (.getfield 9, 3) := by decide +kernel
theorem dX1_putAside_29 : decode cX1_putAside 29 = .ok (.iload_n 1, 1) := by decide +kernel
theorem dX1_putAside_30 : decode cX1_putAside 30 = .ok (.invokevirtual 109, 3) := by decide +kernel
theorem dX1_putAside_33 : decode cX1_putAside 33 = .ok (.ireturn, 1) := by decide +kernel
theorem dX1_carryOut_0 : decode cX1_carryOut 0 = .ok (.iload_n 1, 1) := by decide +kernel
theorem dX1_carryOut_1 : decode cX1_carryOut 1 = .ok (.ifCond .lt 10, 3) := by decide +kernel
theorem dX1_carryOut_4 : decode cX1_carryOut 4 = .ok (.iload_n 1, 1) := by decide +kernel
theorem dX1_carryOut_5 : decode cX1_carryOut 5 = .ok (.sipush 300, 3) := by decide +kernel
theorem dX1_carryOut_8 : decode cX1_carryOut 8 = .ok (.if_icmp .lt 4, 3) := by decide +kernel
theorem dX1_carryOut_11 : decode cX1_carryOut 11 = .ok (.return_, 1) := by decide +kernel
theorem dX1_carryOut_12 : decode cX1_carryOut 12 = .ok (.aload_n 0, 1) := by decide +kernel
theorem dX1_carryOut_13 : decode cX1_carryOut 13 = .ok (.iload_n 1, 1) := by decide +kernel
theorem dX1_carryOut_14 : decode cX1_carryOut 14 = .ok (.invokevirtual 106, 3) := by decide +kernel
theorem dX1_carryOut_17 : decode cX1_carryOut 17 = .ok (.ifCond .eq 11, 3) := by decide +kernel
theorem dX1_carryOut_20 : decode cX1_carryOut 20 = .ok (.aload_n 0, 1) := by decide +kernel
theorem dX1_carryOut_21 : decode cX1_carryOut 21 = .ok (.iload_n 1, 1) := by decide +kernel
theorem dX1_carryOut_22 : decode cX1_carryOut 22 = .ok (.invokevirtual 112, 3) := by decide +kernel
theorem dX1_carryOut_25 : decode cX1_carryOut 25 = .ok (.goto 38, 3) := by decide +kernel
theorem dX1_carryOut_28 : decode cX1_carryOut 28 = .ok (.aload_n 0, 1) := by decide +kernel
theorem dX1_carryOut_29 : decode cX1_carryOut 29 = .ok (.getfield 9, 3) := by decide +kernel
theorem dX1_carryOut_32 : decode cX1_carryOut 32 = .ok (.iload_n 1, 1) := by decide +kernel
theorem dX1_carryOut_33 : decode cX1_carryOut 33 = .ok (.invokevirtual 88, 3) := by decide +kernel
theorem dX1_carryOut_36 : decode cX1_carryOut 36 = .ok (.ifCond .ne 27, 3) := by decide +kernel
theorem dX1_carryOut_39 : decode cX1_carryOut 39 = .ok (.aload_n 0, 1) := by decide +kernel
theorem dX1_carryOut_40 : decode cX1_carryOut 40 = .ok (.aload_n 0, 1) := by decide +kernel
theorem dX1_carryOut_41 : decode cX1_carryOut 41 = .ok (.getfield 9, 3) := by decide +kernel
theorem dX1_carryOut_44 : decode cX1_carryOut 44 = .ok (.invokevirtual 59, 3) := by decide +kernel
theorem dX1_carryOut_47 : decode cX1_carryOut 47 = .ok (.aload_n 0, 1) := by decide +kernel
theorem dX1_carryOut_48 : decode cX1_carryOut 48 = .ok (.getfield 9, 3) := by decide +kernel
theorem dX1_carryOut_51 : decode cX1_carryOut 51 = .ok (.iload_n 1, 1) := by decide +kernel
theorem dX1_carryOut_52 : decode cX1_carryOut 52 = .ok (.invokevirtual 115, 3) := by decide +kernel
theorem dX1_carryOut_55 : decode cX1_carryOut 55 = .ok (.aload_n 0, 1) := by decide +kernel
theorem dX1_carryOut_56 : decode cX1_carryOut 56 = .ok (.getfield 24, 3) := by decide +kernel
theorem dX1_carryOut_59 : decode cX1_carryOut 59 = .ok (.iload_n 1, 1) := by decide +kernel
theorem dX1_carryOut_60 : decode cX1_carryOut 60 = .ok (.invokevirtual 118, 3) := by decide +kernel
theorem dX1_carryOut_63 : decode cX1_carryOut 63 = .ok (.aload_n 0, 1) := by decide +kernel
theorem dX1_carryOut_64 : decode cX1_carryOut 64 = .ok (.aload_n 0, 1) := by decide +kernel
theorem dX1_carryOut_65 : decode cX1_carryOut 65 = .ok (.getfield 24, 3) := by decide +kernel
theorem dX1_carryOut_68 : decode cX1_carryOut 68 = .ok (.aload_n 0, 1) := by decide +kernel
theorem dX1_carryOut_69 : decode cX1_carryOut 69 = .ok (.getfield 9, 3) := by decide +kernel
theorem dX1_carryOut_72 : decode cX1_carryOut 72 = .ok (.iload_n 1, 1) := by decide +kernel
theorem dX1_carryOut_73 : decode cX1_carryOut 73 = .ok (.invokevirtual 115, 3) := by decide +kernel
theorem dX1_carryOut_76 : decode cX1_carryOut 76 = .ok (.aload_n 0, 1) := by decide +kernel
theorem dX1_carryOut_77 : decode cX1_carryOut 77 = .ok (.getfield 15, 3) := by decide +kernel
theorem dX1_carryOut_80 : decode cX1_carryOut 80 = .ok (.iload_n 1, 1) := by decide +kernel
theorem dX1_carryOut_81 : decode cX1_carryOut 81 = .ok (.invokevirtual 118, 3) := by decide +kernel
theorem dX1_carryOut_84 : decode cX1_carryOut 84 = .ok (.aload_n 0, 1) := by decide +kernel
theorem dX1_carryOut_85 : decode cX1_carryOut 85 = .ok (.getfield 31, 3) := by decide +kernel
theorem dX1_carryOut_88 : decode cX1_carryOut 88 = .ok (.iload_n 1, 1) := by decide +kernel
theorem dX1_carryOut_89 : decode cX1_carryOut 89 = .ok (.aload_n 0, 1) := by decide +kernel
theorem dX1_carryOut_90 : decode cX1_carryOut 90 = .ok (.getfield 38, 3) := by decide +kernel
theorem dX1_carryOut_93 : decode cX1_carryOut 93 = .ok (.iastore, 1) := by decide +kernel
theorem dX1_carryOut_94 : decode cX1_carryOut 94 = .ok (.aload_n 0, 1) := by decide +kernel
theorem dX1_carryOut_95 : decode cX1_carryOut 95 = .ok (.dup, 1) := by decide +kernel
theorem dX1_carryOut_96 : decode cX1_carryOut 96 = .ok (.getfield 38, 3) := by decide +kernel
theorem dX1_carryOut_99 : decode cX1_carryOut 99 = .ok (.iconst 1, 1) := by decide +kernel
theorem dX1_carryOut_100 : decode cX1_carryOut 100 = .ok (.iadd, 1) := by decide +kernel
theorem dX1_carryOut_101 : decode cX1_carryOut 101 = .ok (.putfield 38, 3) := by decide +kernel
theorem dX1_carryOut_104 : decode cX1_carryOut 104 = .ok (.return_, 1) := by decide +kernel
theorem dX1_takeOutOfMemory_0 : decode cX1_takeOutOfMemory 0 = .ok (.aload_n 0, 1) := by decide +kernel
theorem dX1_takeOutOfMemory_1 : decode cX1_takeOutOfMemory 1 = .ok (.aload_n 0, 1) := by decide +kernel
theorem dX1_takeOutOfMemory_2 : decode cX1_takeOutOfMemory 2 = .ok (.getfield 15, 3) := by decide +kernel
theorem dX1_takeOutOfMemory_5 : decode cX1_takeOutOfMemory 5 = .ok (.aload_n 0, 1) := by decide +kernel
theorem dX1_takeOutOfMemory_6 : decode cX1_takeOutOfMemory 6 = .ok (.getfield 9, 3) := by decide +kernel
theorem dX1_takeOutOfMemory_9 : decode cX1_takeOutOfMemory 9 = .ok (.iload_n 1, 1) := by decide +kernel
theorem dX1_takeOutOfMemory_10 : decode cX1_takeOutOfMemory 10 = .ok (.invokevirtual 122, 3) := by decide +kernel
theorem dX1_takeOutOfMemory_13 : decode cX1_takeOutOfMemory 13 = .ok (.aload_n 0, 1) := by decide +kernel
theorem dX1_takeOutOfMemory_14 : decode cX1_takeOutOfMemory 14 = .ok (.getfield 24, 3) := by decide +kernel
theorem dX1_takeOutOfMemory_17 : decode cX1_takeOutOfMemory 17 = .ok (.iload_n 1, 1) := by decide +kernel
theorem dX1_takeOutOfMemory_18 : decode cX1_takeOutOfMemory 18 = .ok (.invokevirtual 118, 3) := by decide +kernel
theorem dX1_takeOutOfMemory_21 : decode cX1_takeOutOfMemory 21 = .ok (.aload_n 0, 1) := by decide +kernel
theorem dX1_takeOutOfMemory_22 : decode cX1_takeOutOfMemory 22 = .ok (.iload_n 1, 1) := by decide +kernel
theorem dX1_takeOutOfMemory_23 : decode cX1_takeOutOfMemory 23 = .ok (.iconst (-1), 1) := by decide +kernel
theorem dX1_takeOutOfMemory_24 : decode cX1_takeOutOfMemory 24 = .ok (.invokevirtual 92, 3) := by decide +kernel
theorem dX1_takeOutOfMemory_27 : decode cX1_takeOutOfMemory 27 = .ok (.return_, 1) := by decide +kernel
theorem dX1_move_0 : decode cX1_move 0 = .ok (.aload_n 0, 1) := by decide +kernel
theorem dX1_move_1 : decode cX1_move 1 = .ok (.getfield 9, 3) := by decide +kernel
theorem dX1_move_4 : decode cX1_move 4 = .ok (.iload 4, 2) := by decide +kernel
theorem dX1_move_6 : decode cX1_move 6 = .ok (.invokevirtual 115, 3) := by decide +kernel
theorem dX1_move_9 : decode cX1_move 9 = .ok (.istore 5, 2) := by decide +kernel
theorem dX1_move_11 : decode cX1_move 11 = .ok (.aload_n 0, 1) := by decide +kernel
theorem dX1_move_12 : decode cX1_move 12 = .ok (.getfield 9, 3) := by decide +kernel
theorem dX1_move_15 : decode cX1_move 15 = .ok (.iload 4, 2) := by decide +kernel
theorem dX1_move_17 : decode cX1_move 17 = .ok (.invokevirtual 109, 3) := by decide +kernel
theorem dX1_move_20 : decode cX1_move 20 = .ok (.istore 6, 2) := by decide +kernel
theorem dX1_move_22 : decode cX1_move 22 = .ok (.iconst 0, 1) := by decide +kernel
theorem dX1_move_23 : decode cX1_move 23 = .ok (.istore 7, 2) := by decide +kernel
theorem dX1_move_25 : decode cX1_move 25 = .ok (.iload 7, 2) := by decide +kernel
theorem dX1_move_27 : decode cX1_move 27 = .ok (.iload 6, 2) := by decide +kernel
theorem dX1_move_29 : decode cX1_move 29 = .ok (.if_icmp .ge 26, 3) := by decide +kernel
theorem dX1_move_32 : decode cX1_move 32 = .ok (.aload_n 3, 1) := by decide +kernel
theorem dX1_move_33 : decode cX1_move 33 = .ok (.iload 5, 2) := by decide +kernel
theorem dX1_move_35 : decode cX1_move 35 = .ok (.iload 7, 2) := by decide +kernel
theorem dX1_move_37 : decode cX1_move 37 = .ok (.iadd, 1) := by decide +kernel
theorem dX1_move_38 : decode cX1_move 38 = .ok (.aload_n 1, 1) := by decide +kernel
theorem dX1_move_39 : decode cX1_move 39 = .ok (.iload_n 2, 1) := by decide +kernel
theorem dX1_move_40 : decode cX1_move 40 = .ok (.iload 7, 2) := by decide +kernel
theorem dX1_move_42 : decode cX1_move 42 = .ok (.iadd, 1) := by decide +kernel
theorem dX1_move_43 : decode cX1_move 43 = .ok (.invokevirtual 125, 3) := by decide +kernel
theorem dX1_move_46 : decode cX1_move 46 = .ok (.invokevirtual 128, 3) := by decide +kernel
theorem dX1_move_49 : decode cX1_move 49 = .ok (.iinc 7 1, 3) := by decide +kernel
theorem dX1_move_52 : decode cX1_move 52 = .ok (.goto (-27), 3) := by decide +kernel
theorem dX1_move_55 : decode cX1_move 55 = .ok (.return_, 1) := by decide +kernel
theorem dX4_init_0 : decode cX4_init 0 = .ok (.aload_n 0, 1) := by decide +kernel
theorem dX4_init_1 : decode cX4_init 1 = .ok (.invokespecial 3, 3) := by decide +kernel
theorem dX4_init_4 : decode cX4_init 4 = .ok (.aload_n 0, 1) := by decide +kernel
theorem dX4_init_5 : decode cX4_init 5 = .ok (.new 9, 3) := by decide +kernel
theorem dX4_init_8 : decode cX4_init 8 = .ok (.dup, 1) := by decide +kernel
theorem dX4_init_9 : decode cX4_init 9 = .ok (.sipush 900, 3) := by decide +kernel
theorem dX4_init_12 : decode cX4_init 12 = .ok (.invokespecial 11, 3) := by decide +kernel
theorem dX4_init_15 : decode cX4_init 15 = .ok (.putfield 14, 3) := by decide +kernel
theorem dX4_init_18 : decode cX4_init 18 = .ok (.aload_n 0, 1) := by decide +kernel
theorem dX4_init_19 : decode cX4_init 19 = .ok (.new 9, 3) := by decide +kernel
theorem dX4_init_22 : decode cX4_init 22 = .ok (.dup, 1) := by decide +kernel
theorem dX4_init_23 : decode cX4_init 23 = .ok (.sipush 300, 3) := by decide +kernel
theorem dX4_init_26 : decode cX4_init 26 = .ok (.invokespecial 11, 3) := by decide +kernel
theorem dX4_init_29 : decode cX4_init 29 = .ok (.putfield 18, 3) := by decide +kernel
theorem dX4_init_32 : decode cX4_init 32 = .ok (.aload_n 0, 1) := by decide +kernel
theorem dX4_init_33 : decode cX4_init 33 = .ok (.new 9, 3) := by decide +kernel
theorem dX4_init_36 : decode cX4_init 36 = .ok (.dup, 1) := by decide +kernel
theorem dX4_init_37 : decode cX4_init 37 = .ok (.sipush 300, 3) := by decide +kernel
theorem dX4_init_40 : decode cX4_init 40 = .ok (.invokespecial 11, 3) := by decide +kernel
theorem dX4_init_43 : decode cX4_init 43 = .ok (.putfield 21, 3) := by decide +kernel
theorem dX4_init_46 : decode cX4_init 46 = .ok (.aload_n 0, 1) := by decide +kernel
theorem dX4_init_47 : decode cX4_init 47 = .ok (.new 9, 3) := by decide +kernel
theorem dX4_init_50 : decode cX4_init 50 = .ok (.dup, 1) := by decide +kernel
theorem dX4_init_51 : decode cX4_init 51 = .ok (.sipush 900, 3) := by decide +kernel
theorem dX4_init_54 : decode cX4_init 54 = .ok (.invokespecial 11, 3) := by decide +kernel
theorem dX4_init_57 : decode cX4_init 57 = .ok (.putfield 24, 3) := by decide +kernel
theorem dX4_init_60 : decode cX4_init 60 = .ok (.aload_n 0, 1) := by decide +kernel
theorem dX4_init_61 : decode cX4_init 61 = .ok (.new 9, 3) := by decide +kernel
theorem dX4_init_64 : decode cX4_init 64 = .ok (.dup, 1) := by decide +kernel
theorem dX4_init_65 : decode cX4_init 65 = .ok (.sipush 300, 3) := by decide +kernel
theorem dX4_init_68 : decode cX4_init 68 = .ok (.invokespecial 11, 3) := by decide +kernel
theorem dX4_init_71 : decode cX4_init 71 = .ok (.putfield 27, 3) := by decide +kernel
theorem dX4_init_74 : decode cX4_init 74 = .ok (.aload_n 0, 1) := by decide +kernel
theorem dX4_init_75 : decode cX4_init 75 = .ok (.new 9, 3) := by decide +kernel
theorem dX4_init_78 : decode cX4_init 78 = .ok (.dup, 1) := by decide +kernel
theorem dX4_init_79 : decode cX4_init 79 = .ok (.sipush 300, 3) := by decide +kernel
theorem dX4_init_82 : decode cX4_init 82 = .ok (.invokespecial 11, 3) := by decide +kernel
theorem dX4_init_85 : decode cX4_init 85 = .ok (.putfield 30, 3) := by decide +kernel
theorem dX4_init_88 : decode cX4_init 88 = .ok (.aload_n 0, 1) := by decide +kernel
theorem dX4_init_89 : decode cX4_init 89 = .ok (.new 33, 3) := by decide +kernel
theorem dX4_init_92 : decode cX4_init 92 = .ok (.dup, 1) := by decide +kernel
theorem dX4_init_93 : decode cX4_init 93 = .ok (.invokespecial 35, 3) := by decide +kernel
theorem dX4_init_96 : decode cX4_init 96 = .ok (.putfield 36, 3) := by decide +kernel
theorem dX4_init_99 : decode cX4_init 99 = .ok (.aload_n 0, 1) := by decide +kernel
theorem dX4_init_100 : decode cX4_init 100 = .ok (.new 40, 3) := by decide +kernel
theorem dX4_init_103 : decode cX4_init 103 = .ok (.dup, 1) := by decide +kernel
theorem dX4_init_104 : decode cX4_init 104 = .ok (.aload_n 0, 1) := by decide +kernel
theorem dX4_init_105 : decode cX4_init 105 = .ok (.getfield 24, 3) := by decide +kernel
theorem dX4_init_108 : decode cX4_init 108 = .ok (.aload_n 0, 1) := by decide +kernel
theorem dX4_init_109 : decode cX4_init 109 = .ok (.getfield 18, 3) := by decide +kernel
theorem dX4_init_112 : decode cX4_init 112 = .ok (.aload_n 0, 1) := by decide +kernel
theorem dX4_init_113 : decode cX4_init 113 = .ok (.getfield 27, 3) := by decide +kernel
theorem dX4_init_116 : decode cX4_init 116 = .ok (.invokespecial 42, 3) := by decide +kernel
theorem dX4_init_119 : decode cX4_init 119 = .ok (.putfield 45, 3) := by decide +kernel
theorem dX4_init_122 : decode cX4_init 122 = .ok (.aload_n 0, 1) := by decide +kernel
theorem dX4_init_123 : decode cX4_init 123 = .ok (.new 49, 3) := by decide +kernel
theorem dX4_init_126 : decode cX4_init 126 = .ok (.dup, 1) := by decide +kernel
theorem dX4_init_127 : decode cX4_init 127 = .ok (.aload_n 0, 1) := by decide +kernel
theorem dX4_init_128 : decode cX4_init 128 = .ok (.getfield 36, 3) := by decide +kernel
theorem dX4_init_131 : decode cX4_init 131 = .ok (.aload_n 0, 1) := by decide +kernel
theorem dX4_init_132 : decode cX4_init 132 = .ok (.getfield 30, 3) := by decide +kernel
theorem dX4_init_135 : decode cX4_init 135 = .ok (.invokespecial 51, 3) := by decide +kernel
theorem dX4_init_138 : decode cX4_init 138 = .ok (.putfield 54, 3) := by decide +kernel
theorem dX4_init_141 : decode cX4_init 141 = .ok (.return_, 1) := by decide +kernel
theorem dX4_feed_0 : decode cX4_feed 0 = .ok (.iload_n 3, 1) := by decide +kernel
theorem dX4_feed_1 : decode cX4_feed 1 = .ok (.iconst 1, 1) := by decide +kernel
theorem dX4_feed_2 : decode cX4_feed 2 = .ok (.if_icmp .lt 28, 3) := by decide +kernel
theorem dX4_feed_5 : decode cX4_feed 5 = .ok (.iload_n 3, 1) := by decide +kernel
theorem dX4_feed_6 : decode cX4_feed 6 = .ok (.bipush 8, 2) := by decide +kernel
theorem dX4_feed_8 : decode cX4_feed 8 = .ok (.if_icmp .gt 22, 3) := by decide +kernel
theorem dX4_feed_11 : decode cX4_feed 11 = .ok (.iload_n 3, 1) := by decide +kernel
theorem dX4_feed_12 : decode cX4_feed 12 = .ok (.aload_n 0, 1) := by decide +kernel
theorem dX4_feed_13 : decode cX4_feed 13 = .ok (.getfield 14, 3) := by decide +kernel
theorem dX4_feed_16 : decode cX4_feed 16 = .ok (.invokevirtual 58, 3) := by decide +kernel
theorem dX4_feed_19 : decode cX4_feed 19 = .ok (.aload_n 0, 1) := by decide +kernel
theorem dX4_feed_20 : decode cX4_feed 20 = .ok (.getfield 14, 3) := by decide +kernel
theorem dX4_feed_23 : decode cX4_feed 23 = .ok (.invokevirtual 62, 3) := by decide +kernel
theorem dX4_feed_26 : decode cX4_feed 26 = .ok (.isub, 1) := by decide +kernel
theorem dX4_feed_27 : decode cX4_feed 27 = .ok (.if_icmp .le 5, 3) := by decide +kernel
theorem dX4_feed_30 : decode cX4_feed 30 = .ok (.iconst 0, 1) := by decide +kernel
theorem dX4_feed_31 : decode cX4_feed 31 = .ok (.ireturn, 1) := by decide +kernel
theorem dX4_feed_32 : decode cX4_feed 32 = .ok (.iload_n 3, 1) := by decide +kernel
theorem dX4_feed_33 : decode cX4_feed 33 = .ok (.iconst 1, 1) := by decide +kernel
theorem dX4_feed_34 : decode cX4_feed 34 = .ok (.isub, 1) := by decide +kernel
theorem dX4_feed_35 : decode cX4_feed 35 = .ok (.istore 4, 2) := by decide +kernel
theorem dX4_feed_37 : decode cX4_feed 37 = .ok (.iload 4, 2) := by decide +kernel
theorem dX4_feed_39 : decode cX4_feed 39 = .ok (.ifCond .lt 28, 3) := by decide +kernel
theorem dX4_feed_42 : decode cX4_feed 42 = .ok (.aload_n 0, 1) := by decide +kernel
theorem dX4_feed_43 : decode cX4_feed 43 = .ok (.getfield 14, 3) := by decide +kernel
theorem dX4_feed_46 : decode cX4_feed 46 = .ok (.lload_n 1, 1) := by decide +kernel
theorem dX4_feed_47 : decode cX4_feed 47 = .ok (.bipush 8, 2) := by decide +kernel
theorem dX4_feed_49 : decode cX4_feed 49 = .ok (.iload 4, 2) := by decide +kernel
theorem dX4_feed_51 : decode cX4_feed 51 = .ok (.imul, 1) := by decide +kernel
theorem dX4_feed_52 : decode cX4_feed 52 = .ok (.lushr, 1) := by decide +kernel
theorem dX4_feed_53 : decode cX4_feed 53 = .ok (.l2i, 1) := by decide +kernel
theorem dX4_feed_54 : decode cX4_feed 54 = .ok (.sipush 255, 3) := by decide +kernel
theorem dX4_feed_57 : decode cX4_feed 57 = .ok (.iand, 1) := by decide +kernel
theorem dX4_feed_58 : decode cX4_feed 58 = .ok (.invokevirtual 65, 3) := by decide +kernel
theorem dX4_feed_61 : decode cX4_feed 61 = .ok (.iinc 4 (-1), 3) := by decide +kernel
theorem dX4_feed_64 : decode cX4_feed 64 = .ok (.goto (-27), 3) := by decide +kernel
theorem dX4_feed_67 : decode cX4_feed 67 = .ok (.iconst 1, 1) := by decide +kernel
theorem dX4_feed_68 : decode cX4_feed 68 = .ok (.ireturn, 1) := by decide +kernel
theorem dX4_take_0 : decode cX4_take 0 = .ok (.iload_n 1, 1) := by decide +kernel
theorem dX4_take_1 : decode cX4_take 1 = .ok (.iconst 2, 1) := by decide +kernel
theorem dX4_take_2 : decode cX4_take 2 = .ok (.if_icmp .gt 11, 3) := by decide +kernel
theorem dX4_take_5 : decode cX4_take 5 = .ok (.aload_n 0, 1) := by decide +kernel
theorem dX4_take_6 : decode cX4_take 6 = .ok (.iload_n 1, 1) := by decide +kernel
theorem dX4_take_7 : decode cX4_take 7 = .ok (.invokevirtual 68, 3) := by decide +kernel
theorem dX4_take_10 : decode cX4_take 10 = .ok (.goto 4, 3) := by decide +kernel
theorem dX4_take_13 : decode cX4_take 13 = .ok (.aconst_null, 1) := by decide +kernel
theorem dX4_take_14 : decode cX4_take 14 = .ok (.astore_n 2, 1) := by decide +kernel
theorem dX4_take_15 : decode cX4_take 15 = .ok (.aload_n 2, 1) := by decide +kernel
theorem dX4_take_16 : decode cX4_take 16 = .ok (.ifnull 17, 3) := by decide +kernel
theorem dX4_take_19 : decode cX4_take 19 = .ok (.aload_n 0, 1) := by decide +kernel
theorem dX4_take_20 : decode cX4_take 20 = .ok (.getfield 14, 3) := by decide +kernel
theorem dX4_take_23 : decode cX4_take 23 = .ok (.invokevirtual 62, 3) := by decide +kernel
theorem dX4_take_26 : decode cX4_take 26 = .ok (.aload_n 2, 1) := by decide +kernel
theorem dX4_take_27 : decode cX4_take 27 = .ok (.invokevirtual 58, 3) := by decide +kernel
theorem dX4_take_30 : decode cX4_take 30 = .ok (.if_icmp .le 5, 3) := by decide +kernel
theorem dX4_take_33 : decode cX4_take 33 = .ok (.iconst 0, 1) := by decide +kernel
theorem dX4_take_34 : decode cX4_take 34 = .ok (.ireturn, 1) := by decide +kernel
theorem dX4_take_35 : decode cX4_take 35 = .ok (.aload_n 2, 1) := by decide +kernel
theorem dX4_take_36 : decode cX4_take 36 = .ok (.aload_n 0, 1) := by decide +kernel
theorem dX4_take_37 : decode cX4_take 37 = .ok (.getfield 14, 3) := by decide +kernel
theorem dX4_take_40 : decode cX4_take 40 = .ok (.invokevirtual 72, 3) := by decide +kernel
theorem dX4_take_43 : decode cX4_take 43 = .ok (.aload_n 0, 1) := by decide +kernel
theorem dX4_take_44 : decode cX4_take 44 = .ok (.getfield 14, 3) := by decide +kernel
theorem dX4_take_47 : decode cX4_take 47 = .ok (.invokevirtual 76, 3) := by decide +kernel
theorem dX4_take_50 : decode cX4_take 50 = .ok (.iconst 1, 1) := by decide +kernel
theorem dX4_take_51 : decode cX4_take 51 = .ok (.ireturn, 1) := by decide +kernel
theorem dX4_make_0 : decode cX4_make 0 = .ok (.aload_n 0, 1) := by decide +kernel
theorem dX4_make_1 : decode cX4_make 1 = .ok (.getfield 36, 3) := by decide +kernel
theorem dX4_make_4 : decode cX4_make 4 = .ok (.aload_n 0, 1) := by decide +kernel
theorem dX4_make_5 : decode cX4_make 5 = .ok (.getfield 18, 3) := by decide +kernel
theorem dX4_make_8 : decode cX4_make 8 = .ok (.aload_n 0, 1) := by decide +kernel
theorem dX4_make_9 : decode cX4_make 9 = .ok (.getfield 21, 3) := by decide +kernel
theorem dX4_make_12 : decode cX4_make 12 = .ok (.invokevirtual 79, 3) := by decide +kernel
theorem dX4_make_15 : decode cX4_make 15 = .ok (.aload_n 0, 1) := by decide +kernel
theorem dX4_make_16 : decode cX4_make 16 = .ok (.getfield 54, 3) := by decide +kernel
theorem dX4_make_19 : decode cX4_make 19 = .ok (.invokevirtual 83, 3) := by decide +kernel
theorem dX4_make_22 : decode cX4_make 22 = .ok (.aload_n 0, 1) := by decide +kernel
theorem dX4_make_23 : decode cX4_make 23 = .ok (.getfield 36, 3) := by decide +kernel
theorem dX4_make_26 : decode cX4_make 26 = .ok (.aload_n 0, 1) := by decide +kernel
theorem dX4_make_27 : decode cX4_make 27 = .ok (.getfield 24, 3) := by decide +kernel
theorem dX4_make_30 : decode cX4_make 30 = .ok (.invokevirtual 86, 3) := by decide +kernel
theorem dX4_make_33 : decode cX4_make 33 = .ok (.aload_n 0, 1) := by decide +kernel
theorem dX4_make_34 : decode cX4_make 34 = .ok (.getfield 24, 3) := by decide +kernel
theorem dX4_make_37 : decode cX4_make 37 = .ok (.invokevirtual 62, 3) := by decide +kernel
theorem dX4_make_40 : decode cX4_make 40 = .ok (.ireturn, 1) := by decide +kernel
theorem dX4_byteAt_0 : decode cX4_byteAt 0 = .ok (.aload_n 0, 1) := by decide +kernel
theorem dX4_byteAt_1 : decode cX4_byteAt 1 = .ok (.iload_n 1, 1) := by decide +kernel
theorem dX4_byteAt_2 : decode cX4_byteAt 2 = .ok (.invokevirtual 68, 3) := by decide +kernel
theorem dX4_byteAt_5 : decode cX4_byteAt 5 = .ok (.astore_n 3, 1) := by decide +kernel
theorem dX4_byteAt_6 : decode cX4_byteAt 6 = .ok (.aload_n 3, 1) := by decide +kernel
theorem dX4_byteAt_7 : decode cX4_byteAt 7 = .ok (.ifnonnull 7, 3) := by decide +kernel
theorem dX4_byteAt_10 : decode cX4_byteAt 10 = .ok (.iconst (-1), 1) := by decide +kernel
theorem dX4_byteAt_11 : decode cX4_byteAt 11 = .ok (.goto 8, 3) := by decide +kernel
theorem dX4_byteAt_14 : decode cX4_byteAt 14 = .ok (.aload_n 3, 1) := by decide +kernel
theorem dX4_byteAt_15 : decode cX4_byteAt 15 = .ok (.iload_n 2, 1) := by decide +kernel
theorem dX4_byteAt_16 : decode cX4_byteAt 16 = .ok (.invokevirtual 89, 3) := by decide +kernel
theorem dX4_byteAt_19 : decode cX4_byteAt 19 = .ok (.ireturn, 1) := by decide +kernel
theorem dX4_size_0 : decode cX4_size 0 = .ok (.aload_n 0, 1) := by decide +kernel
theorem dX4_size_1 : decode cX4_size 1 = .ok (.iload_n 1, 1) := by decide +kernel
theorem dX4_size_2 : decode cX4_size 2 = .ok (.invokevirtual 68, 3) := by decide +kernel
theorem dX4_size_5 : decode cX4_size 5 = .ok (.astore_n 2, 1) := by decide +kernel
theorem dX4_size_6 : decode cX4_size 6 = .ok (.aload_n 2, 1) := by decide +kernel
theorem dX4_size_7 : decode cX4_size 7 = .ok (.ifnonnull 7, 3) := by decide +kernel
theorem dX4_size_10 : decode cX4_size 10 = .ok (.iconst (-1), 1) := by decide +kernel
theorem dX4_size_11 : decode cX4_size 11 = .ok (.goto 7, 3) := by decide +kernel
theorem dX4_size_14 : decode cX4_size 14 = .ok (.aload_n 2, 1) := by decide +kernel
theorem dX4_size_15 : decode cX4_size 15 = .ok (.invokevirtual 62, 3) := by decide +kernel
theorem dX4_size_18 : decode cX4_size 18 = .ok (.ireturn, 1) := by decide +kernel
theorem dX4_steps_0 : decode cX4_steps 0 = .ok (.aload_n 0, 1) := by decide +kernel
theorem dX4_steps_1 : decode cX4_steps 1 = .ok (.getfield 36, 3) := by decide +kernel
theorem dX4_steps_4 : decode cX4_steps 4 = .ok (.invokevirtual 93, 3) := by decide +kernel
theorem dX4_steps_7 : decode cX4_steps 7 = .ok (.ireturn, 1) := by decide +kernel
theorem dX4_step_0 : decode cX4_step 0 = .ok (.aload_n 0, 1) := by decide +kernel
theorem dX4_step_1 : decode cX4_step 1 = .ok (.getfield 36, 3) := by decide +kernel
theorem dX4_step_4 : decode cX4_step 4 = .ok (.iload_n 1, 1) := by decide +kernel
theorem dX4_step_5 : decode cX4_step 5 = .ok (.invokevirtual 94, 3) := by decide +kernel
theorem dX4_step_8 : decode cX4_step 8 = .ok (.ifCond .ne 5, 3) := by decide +kernel
theorem dX4_step_11 : decode cX4_step 11 = .ok (.iconst (-1), 1) := by decide +kernel
theorem dX4_step_12 : decode cX4_step 12 = .ok (.ireturn, 1) := by decide +kernel
theorem dX4_step_13 : decode cX4_step 13 = .ok (.iload_n 2, 1) := by decide +kernel
theorem dX4_step_14 : decode cX4_step 14 = .ok (.tableswitch 108 0 5 #[38, 55, 64, 73, 82, 99], 38) := by decide +kernel
theorem dX4_step_52 : decode cX4_step 52 = .ok (.aload_n 0, 1) := by decide +kernel
theorem dX4_step_53 : decode cX4_step 53 = .ok (.getfield 36, 3) := by decide +kernel
theorem dX4_step_56 : decode cX4_step 56 = .ok (.iload_n 1, 1) := by decide +kernel
theorem dX4_step_57 : decode cX4_step 57 = .ok (.invokevirtual 98, 3) := by decide +kernel
theorem dX4_step_60 : decode cX4_step 60 = .ok (.ifCond .eq 7, 3) := by decide +kernel
theorem dX4_step_63 : decode cX4_step 63 = .ok (.iconst 1, 1) := by decide +kernel
theorem dX4_step_64 : decode cX4_step 64 = .ok (.goto 4, 3) := by decide +kernel
theorem dX4_step_67 : decode cX4_step 67 = .ok (.iconst 0, 1) := by decide +kernel
theorem dX4_step_68 : decode cX4_step 68 = .ok (.ireturn, 1) := by decide +kernel
theorem dX4_step_69 : decode cX4_step 69 = .ok (.aload_n 0, 1) := by decide +kernel
theorem dX4_step_70 : decode cX4_step 70 = .ok (.getfield 36, 3) := by decide +kernel
theorem dX4_step_73 : decode cX4_step 73 = .ok (.iload_n 1, 1) := by decide +kernel
theorem dX4_step_74 : decode cX4_step 74 = .ok (.invokevirtual 101, 3) := by decide +kernel
theorem dX4_step_77 : decode cX4_step 77 = .ok (.ireturn, 1) := by decide +kernel
theorem dX4_step_78 : decode cX4_step 78 = .ok (.aload_n 0, 1) := by decide +kernel
theorem dX4_step_79 : decode cX4_step 79 = .ok (.getfield 36, 3) := by decide +kernel
theorem dX4_step_82 : decode cX4_step 82 = .ok (.iload_n 1, 1) := by decide +kernel
theorem dX4_step_83 : decode cX4_step 83 = .ok (.invokevirtual 104, 3) := by decide +kernel
theorem dX4_step_86 : decode cX4_step 86 = .ok (.ireturn, 1) := by decide +kernel
theorem dX4_step_87 : decode cX4_step 87 = .ok (.aload_n 0, 1) := by decide +kernel
theorem dX4_step_88 : decode cX4_step 88 = .ok (.getfield 36, 3) := by decide +kernel
theorem dX4_step_91 : decode cX4_step 91 = .ok (.iload_n 1, 1) := by decide +kernel
theorem dX4_step_92 : decode cX4_step 92 = .ok (.invokevirtual 107, 3) := by decide +kernel
theorem dX4_step_95 : decode cX4_step 95 = .ok (.ireturn, 1) := by decide +kernel
theorem dX4_step_96 : decode cX4_step 96 = .ok (.aload_n 0, 1) := by decide +kernel
theorem dX4_step_97 : decode cX4_step 97 = .ok (.getfield 54, 3) := by decide +kernel
theorem dX4_step_100 : decode cX4_step 100 = .ok (.iload_n 1, 1) := by decide +kernel
theorem dX4_step_101 : decode cX4_step 101 = .ok (.invokevirtual 110, 3) := by decide +kernel
theorem dX4_step_104 : decode cX4_step 104 = .ok (.ifCond .eq 7, 3) := by decide +kernel
theorem dX4_step_107 : decode cX4_step 107 = .ok (.iconst 1, 1) := by decide +kernel
theorem dX4_step_108 : decode cX4_step 108 = .ok (.goto 4, 3) := by decide +kernel
theorem dX4_step_111 : decode cX4_step 111 = .ok (.iconst 0, 1) := by decide +kernel
theorem dX4_step_112 : decode cX4_step 112 = .ok (.ireturn, 1) := by decide +kernel
theorem dX4_step_113 : decode cX4_step 113 = .ok (.aload_n 0, 1) := by decide +kernel
theorem dX4_step_114 : decode cX4_step 114 = .ok (.getfield 54, 3) := by decide +kernel
theorem dX4_step_117 : decode cX4_step 117 = .ok (.iload_n 1, 1) := by decide +kernel
theorem dX4_step_118 : decode cX4_step 118 = .ok (.invokevirtual 113, 3) := by decide +kernel
theorem dX4_step_121 : decode cX4_step 121 = .ok (.ireturn, 1) := by decide +kernel
theorem dX4_step_122 : decode cX4_step 122 = .ok (.iconst (-1), 1) := by decide +kernel
theorem dX4_step_123 : decode cX4_step 123 = .ok (.ireturn, 1) := by decide +kernel
theorem dX4_apply_0 : decode cX4_apply 0 = .ok (.aload_n 0, 1) := by decide +kernel
theorem dX4_apply_1 : decode cX4_apply 1 = .ok (.getfield 45, 3) := by decide +kernel
theorem dX4_apply_4 : decode cX4_apply 4 = .ok (.invokevirtual 116, 3) := by decide +kernel
theorem dX4_apply_7 : decode cX4_apply 7 = .ok (.ireturn, 1) := by decide +kernel
theorem dX4_inPlace_0 : decode cX4_inPlace 0 = .ok (.aload_n 0, 1) := by decide +kernel
theorem dX4_inPlace_1 : decode cX4_inPlace 1 = .ok (.getfield 54, 3) := by decide +kernel
theorem dX4_inPlace_4 : decode cX4_inPlace 4 = .ok (.invokevirtual 119, 3) := by decide +kernel
theorem dX4_inPlace_7 : decode cX4_inPlace 7 = .ok (.ireturn, 1) := by decide +kernel
theorem dX4_check_0 : decode cX4_check 0 = .ok (.aload_n 0, 1) := by decide +kernel
theorem dX4_check_1 : decode cX4_check 1 = .ok (.iload_n 1, 1) := by decide +kernel
theorem dX4_check_2 : decode cX4_check 2 = .ok (.invokevirtual 68, 3) := by decide +kernel
theorem dX4_check_5 : decode cX4_check 5 = .ok (.astore_n 2, 1) := by decide +kernel
theorem dX4_check_6 : decode cX4_check 6 = .ok (.aload_n 2, 1) := by decide +kernel
theorem dX4_check_7 : decode cX4_check 7 = .ok (.ifnonnull 7, 3) := by decide +kernel
theorem dX4_check_10 : decode cX4_check 10 = .ok (.iconst 0, 1) := by decide +kernel
theorem dX4_check_11 : decode cX4_check 11 = .ok (.goto 7, 3) := by decide +kernel
theorem dX4_check_14 : decode cX4_check 14 = .ok (.aload_n 2, 1) := by decide +kernel
theorem dX4_check_15 : decode cX4_check 15 = .ok (.invokevirtual 120, 3) := by decide +kernel
theorem dX4_check_18 : decode cX4_check 18 = .ok (.ireturn, 1) := by decide +kernel
theorem dX4_rowNamed_0 : decode cX4_rowNamed 0 = .ok (.iload_n 1, 1) := by decide +kernel
theorem dX4_rowNamed_1 : decode cX4_rowNamed 1 = .ok (.tableswitch 60 0 4 #[35, 40, 45, 50, 55], 35) := by decide +kernel
theorem dX4_rowNamed_36 : decode cX4_rowNamed 36 = .ok (.aload_n 0, 1) := by decide +kernel
theorem dX4_rowNamed_37 : decode cX4_rowNamed 37 = .ok (.getfield 18, 3) := by decide +kernel
theorem dX4_rowNamed_40 : decode cX4_rowNamed 40 = .ok (.areturn, 1) := by decide +kernel
theorem dX4_rowNamed_41 : decode cX4_rowNamed 41 = .ok (.aload_n 0, 1) := by decide +kernel
theorem dX4_rowNamed_42 : decode cX4_rowNamed 42 = .ok (.getfield 21, 3) := by decide +kernel
theorem dX4_rowNamed_45 : decode cX4_rowNamed 45 = .ok (.areturn, 1) := by decide +kernel
theorem dX4_rowNamed_46 : decode cX4_rowNamed 46 = .ok (.aload_n 0, 1) := by decide +kernel
theorem dX4_rowNamed_47 : decode cX4_rowNamed 47 = .ok (.getfield 24, 3) := by decide +kernel
theorem dX4_rowNamed_50 : decode cX4_rowNamed 50 = .ok (.areturn, 1) := by decide +kernel
theorem dX4_rowNamed_51 : decode cX4_rowNamed 51 = .ok (.aload_n 0, 1) := by decide +kernel
theorem dX4_rowNamed_52 : decode cX4_rowNamed 52 = .ok (.getfield 27, 3) := by decide +kernel
theorem dX4_rowNamed_55 : decode cX4_rowNamed 55 = .ok (.areturn, 1) := by decide +kernel
theorem dX4_rowNamed_56 : decode cX4_rowNamed 56 = .ok (.aload_n 0, 1) := by decide +kernel
theorem dX4_rowNamed_57 : decode cX4_rowNamed 57 = .ok (.getfield 30, 3) := by decide +kernel
theorem dX4_rowNamed_60 : decode cX4_rowNamed 60 = .ok (.areturn, 1) := by decide +kernel
theorem dX4_rowNamed_61 : decode cX4_rowNamed 61 = .ok (.aconst_null, 1) := by decide +kernel
theorem dX4_rowNamed_62 : decode cX4_rowNamed 62 = .ok (.areturn, 1) := by decide +kernel
