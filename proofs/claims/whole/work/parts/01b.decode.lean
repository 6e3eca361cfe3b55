theorem dX3_init_0 : decode cX3_init 0 = .ok (.aload_n 0, 1) := by decide +kernel
theorem dX3_init_1 : decode cX3_init 1 = .ok (.invokespecial 3, 3) := by decide +kernel
theorem dX3_init_4 : decode cX3_init 4 = .ok (.aload_n 0, 1) := by decide +kernel
theorem dX3_init_5 : decode cX3_init 5 = .ok (.iload_n 1, 1) := by decide +kernel
theorem dX3_init_6 : decode cX3_init 6 = .ok (.iconst 0, 1) := by decide +kernel
theorem dX3_init_7 : decode cX3_init 7 = .ok (.invokestatic 9, 3) := by decide +kernel
theorem dX3_init_10 : decode cX3_init 10 = .ok (.newarray .int, 2) := by decide +kernel
theorem dX3_init_12 : decode cX3_init 12 = .ok (.putfield 15, 3) := by decide +kernel
theorem dX3_init_15 : decode cX3_init 15 = .ok (.aload_n 0, 1) := by decide +kernel
theorem dX3_init_16 : decode cX3_init 16 = .ok (.iconst 0, 1) := by decide +kernel
theorem dX3_init_17 : decode cX3_init 17 = .ok (.putfield 21, 3) := by decide +kernel
theorem dX3_init_20 : decode cX3_init 20 = .ok (.return_, 1) := by decide +kernel
theorem dX3_most_0 : decode cX3_most 0 = .ok (.aload_n 0, 1) := by decide +kernel
theorem dX3_most_1 : decode cX3_most 1 = .ok (.getfield 15, 3) := by decide +kernel
theorem dX3_most_4 : decode cX3_most 4 = .ok (.arraylength, 1) := by decide +kernel
theorem dX3_most_5 : decode cX3_most 5 = .ok (.ireturn, 1) := by decide +kernel
theorem dX3_count_0 : decode cX3_count 0 = .ok (.aload_n 0, 1) := by decide +kernel
theorem dX3_count_1 : decode cX3_count 1 = .ok (.getfield 21, 3) := by decide +kernel
theorem dX3_count_4 : decode cX3_count 4 = .ok (.ireturn, 1) := by decide +kernel
theorem dX3_at_0 : decode cX3_at 0 = .ok (.iload_n 1, 1) := by decide +kernel
theorem dX3_at_1 : decode cX3_at 1 = .ok (.ifCond .lt 20, 3) := by decide +kernel
theorem dX3_at_4 : decode cX3_at 4 = .ok (.iload_n 1, 1) := by decide +kernel
theorem dX3_at_5 : decode cX3_at 5 = .ok (.aload_n 0, 1) := by decide +kernel
theorem dX3_at_6 : decode cX3_at 6 = .ok (.getfield 21, 3) := by decide +kernel
theorem dX3_at_9 : decode cX3_at 9 = .ok (.if_icmp .ge 12, 3) := by decide +kernel
theorem dX3_at_12 : decode cX3_at 12 = .ok (.aload_n 0, 1) := by decide +kernel
theorem dX3_at_13 : decode cX3_at 13 = .ok (.getfield 15, 3) := by decide +kernel
theorem dX3_at_16 : decode cX3_at 16 = .ok (.iload_n 1, 1) := by decide +kernel
theorem dX3_at_17 : decode cX3_at 17 = .ok (.iaload, 1) := by decide +kernel
theorem dX3_at_18 : decode cX3_at 18 = .ok (.goto 4, 3) := by decide +kernel
theorem dX3_at_21 : decode cX3_at 21 = .ok (.iconst (-1), 1) := by decide +kernel
theorem dX3_at_22 : decode cX3_at 22 = .ok (.ireturn, 1) := by decide +kernel
theorem dX3_put_0 : decode cX3_put 0 = .ok (.iload_n 1, 1) := by decide +kernel
theorem dX3_put_1 : decode cX3_put 1 = .ok (.ifCond .lt 18, 3) := by decide +kernel
theorem dX3_put_4 : decode cX3_put 4 = .ok (.iload_n 1, 1) := by decide +kernel
theorem dX3_put_5 : decode cX3_put 5 = .ok (.aload_n 0, 1) := by decide +kernel
theorem dX3_put_6 : decode cX3_put 6 = .ok (.getfield 21, 3) := by decide +kernel
theorem dX3_put_9 : decode cX3_put 9 = .ok (.if_icmp .ge 10, 3) := by decide +kernel
theorem dX3_put_12 : decode cX3_put 12 = .ok (.aload_n 0, 1) := by decide +kernel
theorem dX3_put_13 : decode cX3_put 13 = .ok (.getfield 15, 3) := by decide +kernel
theorem dX3_put_16 : decode cX3_put 16 = .ok (.iload_n 1, 1) := by decide +kernel
theorem dX3_put_17 : decode cX3_put 17 = .ok (.iload_n 2, 1) := by decide +kernel
theorem dX3_put_18 : decode cX3_put 18 = .ok (.iastore, 1) := by decide +kernel
theorem dX3_put_19 : decode cX3_put 19 = .ok (.return_, 1) := by decide +kernel
theorem dX3_clear_0 : decode cX3_clear 0 = .ok (.aload_n 0, 1) := by decide +kernel
theorem dX3_clear_1 : decode cX3_clear 1 = .ok (.iconst 0, 1) := by decide +kernel
theorem dX3_clear_2 : decode cX3_clear 2 = .ok (.putfield 21, 3) := by decide +kernel
theorem dX3_clear_5 : decode cX3_clear 5 = .ok (.return_, 1) := by decide +kernel
theorem dX3_setCount_0 : decode cX3_setCount 0 = .ok (.aload_n 0, 1) := by decide +kernel
theorem dX3_setCount_1 : decode cX3_setCount 1 = .ok (.iconst 0, 1) := by decide +kernel
theorem dX3_setCount_2 : decode cX3_setCount 2 = .ok (.iload_n 1, 1) := by decide +kernel
theorem dX3_setCount_3 : decode cX3_setCount 3 = .ok (.aload_n 0, 1) := by decide +kernel
theorem dX3_setCount_4 : decode cX3_setCount 4 = .ok (.getfield 15, 3) := by decide +kernel
theorem dX3_setCount_7 : decode cX3_setCount 7 = .ok (.arraylength, 1) := by decide +kernel
theorem dX3_setCount_8 : decode cX3_setCount 8 = .ok (.invokestatic 25, 3) := by decide +kernel
theorem dX3_setCount_11 : decode cX3_setCount 11 = .ok (.invokestatic 9, 3) := by decide +kernel
theorem dX3_setCount_14 : decode cX3_setCount 14 = .ok (.putfield 21, 3) := by decide +kernel
theorem dX3_setCount_17 : decode cX3_setCount 17 = .ok (.return_, 1) := by decide +kernel
theorem dX3_add_0 : decode cX3_add 0 = .ok (.aload_n 0, 1) := by decide +kernel
theorem dX3_add_1 : decode cX3_add 1 = .ok (.getfield 21, 3) := by decide +kernel
theorem dX3_add_4 : decode cX3_add 4 = .ok (.aload_n 0, 1) := by decide +kernel
theorem dX3_add_5 : decode cX3_add 5 = .ok (.getfield 15, 3) := by decide +kernel
theorem dX3_add_8 : decode cX3_add 8 = .ok (.arraylength, 1) := by decide +kernel
theorem dX3_add_9 : decode cX3_add 9 = .ok (.if_icmp .ge 23, 3) := by decide +kernel
theorem dX3_add_12 : decode cX3_add 12 = .ok (.aload_n 0, 1) := by decide +kernel
theorem dX3_add_13 : decode cX3_add 13 = .ok (.getfield 15, 3) := by decide +kernel
theorem dX3_add_16 : decode cX3_add 16 = .ok (.aload_n 0, 1) := by decide +kernel
theorem dX3_add_17 : decode cX3_add 17 = .ok (.getfield 21, 3) := by decide +kernel
theorem dX3_add_20 : decode cX3_add 20 = .ok (.iload_n 1, 1) := by decide +kernel
theorem dX3_add_21 : decode cX3_add 21 = .ok (.iastore, 1) := by decide +kernel
theorem dX3_add_22 : decode cX3_add 22 = .ok (.aload_n 0, 1) := by decide +kernel
theorem dX3_add_23 : decode cX3_add 23 = .ok (.dup, 1) := by decide +kernel
theorem dX3_add_24 : decode cX3_add 24 = .ok (.getfield 21, 3) := by decide +kernel
theorem dX3_add_27 : decode cX3_add 27 = .ok (.iconst 1, 1) := by decide +kernel
theorem dX3_add_28 : decode cX3_add 28 = .ok (.iadd, 1) := by decide +kernel
theorem dX3_add_29 : decode cX3_add 29 = .ok (.putfield 21, 3) := by decide +kernel
theorem dX3_add_32 : decode cX3_add 32 = .ok (.return_, 1) := by decide +kernel
theorem dX3_addFrom_0 : decode cX3_addFrom 0 = .ok (.iload_n 3, 1) := by decide +kernel
theorem dX3_addFrom_1 : decode cX3_addFrom 1 = .ok (.aload_n 1, 1) := by decide +kernel
theorem dX3_addFrom_2 : decode cX3_addFrom 2 = .ok (.invokevirtual 28, 3) := by decide +kernel
theorem dX3_addFrom_5 : decode cX3_addFrom 5 = .ok (.iload_n 2, 1) := by decide +kernel
theorem dX3_addFrom_6 : decode cX3_addFrom 6 = .ok (.isub, 1) := by decide +kernel
theorem dX3_addFrom_7 : decode cX3_addFrom 7 = .ok (.invokestatic 25, 3) := by decide +kernel
theorem dX3_addFrom_10 : decode cX3_addFrom 10 = .ok (.istore 4, 2) := by decide +kernel
theorem dX3_addFrom_12 : decode cX3_addFrom 12 = .ok (.iconst 0, 1) := by decide +kernel
theorem dX3_addFrom_13 : decode cX3_addFrom 13 = .ok (.istore 5, 2) := by decide +kernel
theorem dX3_addFrom_15 : decode cX3_addFrom 15 = .ok (.iload 5, 2) := by decide +kernel
theorem dX3_addFrom_17 : decode cX3_addFrom 17 = .ok (.iload 4, 2) := by decide +kernel
theorem dX3_addFrom_19 : decode cX3_addFrom 19 = .ok (.if_icmp .ge 21, 3) := by decide +kernel
theorem dX3_addFrom_22 : decode cX3_addFrom 22 = .ok (.aload_n 0, 1) := by decide +kernel
theorem dX3_addFrom_23 : decode cX3_addFrom 23 = .ok (.aload_n 1, 1) := by decide +kernel
theorem dX3_addFrom_24 : decode cX3_addFrom 24 = .ok (.iload_n 2, 1) := by decide +kernel
theorem dX3_addFrom_25 : decode cX3_addFrom 25 = .ok (.iload 5, 2) := by decide +kernel
theorem dX3_addFrom_27 : decode cX3_addFrom 27 = .ok (.iadd, 1) := by decide +kernel
theorem dX3_addFrom_28 : decode cX3_addFrom 28 = .ok (.invokevirtual 31, 3) := by decide +kernel
theorem dX3_addFrom_31 : decode cX3_addFrom 31 = .ok (.invokevirtual 35, 3) := by decide +kernel
theorem dX3_addFrom_34 : decode cX3_addFrom 34 = .ok (.iinc 5 1, 3) := by decide +kernel
theorem dX3_addFrom_37 : decode cX3_addFrom 37 = .ok (.goto (-22), 3) := by decide +kernel
theorem dX3_addFrom_40 : decode cX3_addFrom 40 = .ok (.return_, 1) := by decide +kernel
theorem dX3_become_0 : decode cX3_become 0 = .ok (.aload_n 0, 1) := by decide +kernel
theorem dX3_become_1 : decode cX3_become 1 = .ok (.invokevirtual 39, 3) := by decide +kernel
theorem dX3_become_4 : decode cX3_become 4 = .ok (.aload_n 0, 1) := by decide +kernel
theorem dX3_become_5 : decode cX3_become 5 = .ok (.aload_n 1, 1) := by decide +kernel
theorem dX3_become_6 : decode cX3_become 6 = .ok (.iconst 0, 1) := by decide +kernel
theorem dX3_become_7 : decode cX3_become 7 = .ok (.aload_n 1, 1) := by decide +kernel
theorem dX3_become_8 : decode cX3_become 8 = .ok (.invokevirtual 28, 3) := by decide +kernel
theorem dX3_become_11 : decode cX3_become 11 = .ok (.invokevirtual 42, 3) := by decide +kernel
theorem dX3_become_14 : decode cX3_become 14 = .ok (.return_, 1) := by decide +kernel
theorem dX3_sameFrom_0 : decode cX3_sameFrom 0 = .ok (.iload_n 1, 1) := by decide +kernel
theorem dX3_sameFrom_1 : decode cX3_sameFrom 1 = .ok (.ifCond .lt 7, 3) := by decide +kernel
theorem dX3_sameFrom_4 : decode cX3_sameFrom 4 = .ok (.iload_n 3, 1) := by decide +kernel
theorem dX3_sameFrom_5 : decode cX3_sameFrom 5 = .ok (.ifCond .ge 5, 3) := by decide +kernel
theorem dX3_sameFrom_8 : decode cX3_sameFrom 8 = .ok (.iconst 0, 1) := by decide +kernel
theorem dX3_sameFrom_9 : decode cX3_sameFrom 9 = .ok (.ireturn, 1) := by decide +kernel
theorem dX3_sameFrom_10 : decode cX3_sameFrom 10 = .ok (.aload_n 0, 1) := by decide +kernel
theorem dX3_sameFrom_11 : decode cX3_sameFrom 11 = .ok (.getfield 21, 3) := by decide +kernel
theorem dX3_sameFrom_14 : decode cX3_sameFrom 14 = .ok (.iload_n 1, 1) := by decide +kernel
theorem dX3_sameFrom_15 : decode cX3_sameFrom 15 = .ok (.isub, 1) := by decide +kernel
theorem dX3_sameFrom_16 : decode cX3_sameFrom 16 = .ok (.aload_n 2, 1) := by decide +kernel
theorem dX3_sameFrom_17 : decode cX3_sameFrom 17 = .ok (.getfield 21, 3) := by decide +kernel
theorem dX3_sameFrom_20 : decode cX3_sameFrom 20 = .ok (.iload_n 3, 1) := by decide +kernel
theorem dX3_sameFrom_21 : decode cX3_sameFrom 21 = .ok (.isub, 1) := by decide +kernel
theorem dX3_sameFrom_22 : decode cX3_sameFrom 22 = .ok (.invokestatic 25, 3) := by decide +kernel
theorem dX3_sameFrom_25 : decode cX3_sameFrom 25 = .ok (.istore 4, 2) := by decide +kernel
theorem dX3_sameFrom_27 : decode cX3_sameFrom 27 = .ok (.iconst 0, 1) := by decide +kernel
theorem dX3_sameFrom_28 : decode cX3_sameFrom 28 = .ok (.istore 5, 2) := by decide +kernel
theorem dX3_sameFrom_30 : decode cX3_sameFrom 30 = .ok (.iload 5, 2) := by decide +kernel
theorem dX3_sameFrom_32 : decode cX3_sameFrom 32 = .ok (.iload 4, 2) := by decide +kernel
theorem dX3_sameFrom_34 : decode cX3_sameFrom 34 = .ok (.if_icmp .ge 30, 3) := by decide +kernel
theorem dX3_sameFrom_37 : decode cX3_sameFrom 37 = .ok (.aload_n 0, 1) := by decide +kernel
theorem dX3_sameFrom_38 : decode cX3_sameFrom 38 = .ok (.getfield 15, 3) := by decide +kernel
theorem dX3_sameFrom_41 : decode cX3_sameFrom 41 = .ok (.iload_n 1, 1) := by decide +kernel
theorem dX3_sameFrom_42 : decode cX3_sameFrom 42 = .ok (.iload 5, 2) := by decide +kernel
theorem dX3_sameFrom_44 : decode cX3_sameFrom 44 = .ok (.iadd, 1) := by decide +kernel
theorem dX3_sameFrom_45 : decode cX3_sameFrom 45 = .ok (.iaload, 1) := by decide +kernel
theorem dX3_sameFrom_46 : decode cX3_sameFrom 46 = .ok (.aload_n 2, 1) := by decide +kernel
theorem dX3_sameFrom_47 : decode cX3_sameFrom 47 = .ok (.getfield 15, 3) := by decide +kernel
theorem dX3_sameFrom_50 : decode cX3_sameFrom 50 = .ok (.iload_n 3, 1) := by decide +kernel
theorem dX3_sameFrom_51 : decode cX3_sameFrom 51 = .ok (.iload 5, 2) := by decide +kernel
theorem dX3_sameFrom_53 : decode cX3_sameFrom 53 = .ok (.iadd, 1) := by decide +kernel
theorem dX3_sameFrom_54 : decode cX3_sameFrom 54 = .ok (.iaload, 1) := by decide +kernel
theorem dX3_sameFrom_55 : decode cX3_sameFrom 55 = .ok (.if_icmp .ne 9, 3) := by decide +kernel
theorem dX3_sameFrom_58 : decode cX3_sameFrom 58 = .ok (.iinc 5 1, 3) := by decide +kernel
theorem dX3_sameFrom_61 : decode cX3_sameFrom 61 = .ok (.goto (-31), 3) := by decide +kernel
theorem dX3_sameFrom_64 : decode cX3_sameFrom 64 = .ok (.iload 5, 2) := by decide +kernel
theorem dX3_sameFrom_66 : decode cX3_sameFrom 66 = .ok (.ireturn, 1) := by decide +kernel
theorem dX3_addVarint_0 : decode cX3_addVarint 0 = .ok (.iload_n 1, 1) := by decide +kernel
theorem dX3_addVarint_1 : decode cX3_addVarint 1 = .ok (.istore_n 2, 1) := by decide +kernel
theorem dX3_addVarint_2 : decode cX3_addVarint 2 = .ok (.iconst 1, 1) := by decide +kernel
theorem dX3_addVarint_3 : decode cX3_addVarint 3 = .ok (.istore_n 3, 1) := by decide +kernel
theorem dX3_addVarint_4 : decode cX3_addVarint 4 = .ok (.iload_n 3, 1) := by decide +kernel
theorem dX3_addVarint_5 : decode cX3_addVarint 5 = .ok (.iconst 4, 1) := by decide +kernel
theorem dX3_addVarint_6 : decode cX3_addVarint 6 = .ok (.if_icmp .ge 32, 3) := by decide +kernel
theorem dX3_addVarint_9 : decode cX3_addVarint 9 = .ok (.iload_n 2, 1) := by decide +kernel
theorem dX3_addVarint_10 : decode cX3_addVarint 10 = .ok (.bipush 127, 2) := by decide +kernel
theorem dX3_addVarint_12 : decode cX3_addVarint 12 = .ok (.if_icmp .le 26, 3) := by decide +kernel
theorem dX3_addVarint_15 : decode cX3_addVarint 15 = .ok (.aload_n 0, 1) := by decide +kernel
theorem dX3_addVarint_16 : decode cX3_addVarint 16 = .ok (.iload_n 2, 1) := by decide +kernel
theorem dX3_addVarint_17 : decode cX3_addVarint 17 = .ok (.bipush 127, 2) := by decide +kernel
theorem dX3_addVarint_19 : decode cX3_addVarint 19 = .ok (.iand, 1) := by decide +kernel
theorem dX3_addVarint_20 : decode cX3_addVarint 20 = .ok (.sipush 128, 3) := by decide +kernel
theorem dX3_addVarint_23 : decode cX3_addVarint 23 = .ok (.ior, 1) := by decide +kernel
theorem dX3_addVarint_24 : decode cX3_addVarint 24 = .ok (.invokevirtual 35, 3) := by decide +kernel
theorem dX3_addVarint_27 : decode cX3_addVarint 27 = .ok (.iload_n 2, 1) := by decide +kernel
theorem dX3_addVarint_28 : decode cX3_addVarint 28 = .ok (.bipush 7, 2) := by decide +kernel
theorem dX3_addVarint_30 : decode cX3_addVarint 30 = .ok (.iushr, 1) := by decide +kernel
theorem dX3_addVarint_31 : decode cX3_addVarint 31 = .ok (.istore_n 2, 1) := by decide +kernel
theorem dX3_addVarint_32 : decode cX3_addVarint 32 = .ok (.iinc 3 1, 3) := by decide +kernel
theorem dX3_addVarint_35 : decode cX3_addVarint 35 = .ok (.goto (-31), 3) := by decide +kernel
theorem dX3_addVarint_38 : decode cX3_addVarint 38 = .ok (.aload_n 0, 1) := by decide +kernel
theorem dX3_addVarint_39 : decode cX3_addVarint 39 = .ok (.iload_n 2, 1) := by decide +kernel
theorem dX3_addVarint_40 : decode cX3_addVarint 40 = .ok (.bipush 127, 2) := by decide +kernel
theorem dX3_addVarint_42 : decode cX3_addVarint 42 = .ok (.iand, 1) := by decide +kernel
theorem dX3_addVarint_43 : decode cX3_addVarint 43 = .ok (.invokevirtual 35, 3) := by decide +kernel
theorem dX3_addVarint_46 : decode cX3_addVarint 46 = .ok (.return_, 1) := by decide +kernel
theorem dX3_addWord_0 : decode cX3_addWord 0 = .ok (.iconst 3, 1) := by decide +kernel
theorem dX3_addWord_1 : decode cX3_addWord 1 = .ok (.istore_n 2, 1) := by decide +kernel
theorem dX3_addWord_2 : decode cX3_addWord 2 = .ok (.iload_n 2, 1) := by decide +kernel
theorem dX3_addWord_3 : decode cX3_addWord 3 = .ok (.ifCond .lt 23, 3) := by decide +kernel
theorem dX3_addWord_6 : decode cX3_addWord 6 = .ok (.aload_n 0, 1) := by decide +kernel
theorem dX3_addWord_7 : decode cX3_addWord 7 = .ok (.iload_n 1, 1) := by decide +kernel
theorem dX3_addWord_8 : decode cX3_addWord 8 = .ok (.bipush 8, 2) := by decide +kernel
theorem dX3_addWord_10 : decode cX3_addWord 10 = .ok (.iload_n 2, 1) := by decide +kernel
theorem dX3_addWord_11 : decode cX3_addWord 11 = .ok (.imul, 1) := by decide +kernel
theorem dX3_addWord_12 : decode cX3_addWord 12 = .ok (.iushr, 1) := by decide +kernel
theorem dX3_addWord_13 : decode cX3_addWord 13 = .ok (.sipush 255, 3) := by decide +kernel
theorem dX3_addWord_16 : decode cX3_addWord 16 = .ok (.iand, 1) := by decide +kernel
theorem dX3_addWord_17 : decode cX3_addWord 17 = .ok (.invokevirtual 35, 3) := by decide +kernel
theorem dX3_addWord_20 : decode cX3_addWord 20 = .ok (.iinc 2 (-1), 3) := by decide +kernel
theorem dX3_addWord_23 : decode cX3_addWord 23 = .ok (.goto (-21), 3) := by decide +kernel
theorem dX3_addWord_26 : decode cX3_addWord 26 = .ok (.return_, 1) := by decide +kernel
theorem dX3_digest_0 : decode cX3_digest 0 = .ok (.iconst 0, 1) := by decide +kernel
theorem dX3_digest_1 : decode cX3_digest 1 = .ok (.istore_n 1, 1) := by decide +kernel
theorem dX3_digest_2 : decode cX3_digest 2 = .ok (.iconst 0, 1) := by decide +kernel
theorem dX3_digest_3 : decode cX3_digest 3 = .ok (.istore_n 2, 1) := by decide +kernel
theorem dX3_digest_4 : decode cX3_digest 4 = .ok (.iload_n 2, 1) := by decide +kernel
theorem dX3_digest_5 : decode cX3_digest 5 = .ok (.aload_n 0, 1) := by decide +kernel
theorem dX3_digest_6 : decode cX3_digest 6 = .ok (.getfield 21, 3) := by decide +kernel
theorem dX3_digest_9 : decode cX3_digest 9 = .ok (.if_icmp .ge 39, 3) := by decide +kernel
theorem dX3_digest_12 : decode cX3_digest 12 = .ok (.iload_n 2, 1) := by decide +kernel
theorem dX3_digest_13 : decode cX3_digest 13 = .ok (.aload_n 0, 1) := by decide +kernel
theorem dX3_digest_14 : decode cX3_digest 14 = .ok (.getfield 15, 3) := by decide +kernel
theorem dX3_digest_17 : decode cX3_digest 17 = .ok (.arraylength, 1) := by decide +kernel
theorem dX3_digest_18 : decode cX3_digest 18 = .ok (.if_icmp .ge 30, 3) := by decide +kernel
theorem dX3_digest_21 : decode cX3_digest 21 = .ok (.iload_n 1, 1) := by decide +kernel
theorem dX3_digest_22 : decode cX3_digest 22 = .ok (.aload_n 0, 1) := by decide +kernel
theorem dX3_digest_23 : decode cX3_digest 23 = .ok (.getfield 15, 3) := by decide +kernel
theorem dX3_digest_26 : decode cX3_digest 26 = .ok (.iload_n 2, 1) := by decide +kernel
theorem dX3_digest_27 : decode cX3_digest 27 = .ok (.iaload, 1) := by decide +kernel
theorem dX3_digest_28 : decode cX3_digest 28 = .ok (.ixor, 1) := by decide +kernel
theorem dX3_digest_29 : decode cX3_digest 29 = .ok (.istore_n 3, 1) := by decide +kernel
theorem dX3_digest_30 : decode cX3_digest 30 = .ok (.iload_n 3, 1) := by decide +kernel
theorem dX3_digest_31 : decode cX3_digest 31 = .ok (.iconst 5, 1) := by decide +kernel
theorem dX3_digest_32 : decode cX3_digest 32 = .ok (.ishl, 1) := by decide +kernel
theorem dX3_digest_33 : decode cX3_digest 33 = .ok (.iload_n 3, 1) := by decide +kernel
theorem dX3_digest_34 : decode cX3_digest 34 = .ok (.bipush 27, 2) := by decide +kernel
theorem dX3_digest_36 : decode cX3_digest 36 = .ok (.iushr, 1) := by decide +kernel
theorem dX3_digest_37 : decode cX3_digest 37 = .ok (.ior, 1) := by decide +kernel
theorem dX3_digest_38 : decode cX3_digest 38 = .ok (.ldc 46, 2) := by decide +kernel
theorem dX3_digest_40 : decode cX3_digest 40 = .ok (.imul, 1) := by decide +kernel
theorem dX3_digest_41 : decode cX3_digest 41 = .ok (.istore_n 1, 1) := by decide +kernel
theorem dX3_digest_42 : decode cX3_digest 42 = .ok (.iinc 2 1, 3) := by decide +kernel
theorem dX3_digest_45 : decode cX3_digest 45 = .ok (.goto (-41), 3) := by decide +kernel
theorem dX3_digest_48 : decode cX3_digest 48 = .ok (.iload_n 1, 1) := by decide +kernel
theorem dX3_digest_49 : decode cX3_digest 49 = .ok (.ireturn, 1) := by decide +kernel
theorem dX2_init_0 : decode cX2_init 0 = .ok (.aload_n 0, 1) := by decide +kernel
theorem dX2_init_1 : decode cX2_init 1 = .ok (.invokespecial 3, 3) := by decide +kernel
theorem dX2_init_4 : decode cX2_init 4 = .ok (.aload_n 0, 1) := by decide +kernel
theorem dX2_init_5 : decode cX2_init 5 = .ok (.new 9, 3) := by decide +kernel
theorem dX2_init_8 : decode cX2_init 8 = .ok (.dup, 1) := by decide +kernel
theorem dX2_init_9 : decode cX2_init 9 = .ok (.sipush 300, 3) := by decide +kernel
theorem dX2_init_12 : decode cX2_init 12 = .ok (.invokespecial 11, 3) := by decide +kernel
theorem dX2_init_15 : decode cX2_init 15 = .ok (.putfield 14, 3) := by decide +kernel
theorem dX2_init_18 : decode cX2_init 18 = .ok (.aload_n 0, 1) := by decide +kernel
theorem dX2_init_19 : decode cX2_init 19 = .ok (.new 9, 3) := by decide +kernel
theorem dX2_init_22 : decode cX2_init 22 = .ok (.dup, 1) := by decide +kernel
theorem dX2_init_23 : decode cX2_init 23 = .ok (.sipush 300, 3) := by decide +kernel
theorem dX2_init_26 : decode cX2_init 26 = .ok (.invokespecial 11, 3) := by decide +kernel
theorem dX2_init_29 : decode cX2_init 29 = .ok (.putfield 20, 3) := by decide +kernel
theorem dX2_init_32 : decode cX2_init 32 = .ok (.aload_n 0, 1) := by decide +kernel
theorem dX2_init_33 : decode cX2_init 33 = .ok (.sipush 300, 3) := by decide +kernel
theorem dX2_init_36 : decode cX2_init 36 = .ok (.newarray .int, 2) := by decide +kernel
theorem dX2_init_38 : decode cX2_init 38 = .ok (.putfield 23, 3) := by decide +kernel
theorem dX2_init_41 : decode cX2_init 41 = .ok (.aload_n 0, 1) := by decide +kernel
theorem dX2_init_42 : decode cX2_init 42 = .ok (.sipush 300, 3) := by decide +kernel
theorem dX2_init_45 : decode cX2_init 45 = .ok (.newarray .int, 2) := by decide +kernel
theorem dX2_init_47 : decode cX2_init 47 = .ok (.putfield 27, 3) := by decide +kernel
theorem dX2_init_50 : decode cX2_init 50 = .ok (.aload_n 0, 1) := by decide +kernel
theorem dX2_init_51 : decode cX2_init 51 = .ok (.sipush 300, 3) := by decide +kernel
theorem dX2_init_54 : decode cX2_init 54 = .ok (.newarray .int, 2) := by decide +kernel
theorem dX2_init_56 : decode cX2_init 56 = .ok (.putfield 30, 3) := by decide +kernel
theorem dX2_init_59 : decode cX2_init 59 = .ok (.aload_n 0, 1) := by decide +kernel
theorem dX2_init_60 : decode cX2_init 60 = .ok (.iconst 0, 1) := by decide +kernel
theorem dX2_init_61 : decode cX2_init 61 = .ok (.putfield 33, 3) := by decide +kernel
theorem dX2_init_64 : decode cX2_init 64 = .ok (.return_, 1) := by decide +kernel
theorem dX2_base_0 : decode cX2_base 0 = .ok (.aload_n 0, 1) := by decide +kernel
theorem dX2_base_1 : decode cX2_base 1 = .ok (.getfield 14, 3) := by decide +kernel
theorem dX2_base_4 : decode cX2_base 4 = .ok (.areturn, 1) := by decide +kernel
theorem dX2_goal_0 : decode cX2_goal 0 = .ok (.aload_n 0, 1) := by decide +kernel
theorem dX2_goal_1 : decode cX2_goal 1 = .ok (.getfield 20, 3) := by decide +kernel
theorem dX2_goal_4 : decode cX2_goal 4 = .ok (.areturn, 1) := by decide +kernel
theorem dX2_count_0 : decode cX2_count 0 = .ok (.aload_n 0, 1) := by decide +kernel
theorem dX2_count_1 : decode cX2_count 1 = .ok (.getfield 33, 3) := by decide +kernel
theorem dX2_count_4 : decode cX2_count 4 = .ok (.ireturn, 1) := by decide +kernel
theorem dX2_has_0 : decode cX2_has 0 = .ok (.iload_n 1, 1) := by decide +kernel
theorem dX2_has_1 : decode cX2_has 1 = .ok (.ifCond .lt 15, 3) := by decide +kernel
theorem dX2_has_4 : decode cX2_has 4 = .ok (.iload_n 1, 1) := by decide +kernel
theorem dX2_has_5 : decode cX2_has 5 = .ok (.aload_n 0, 1) := by decide +kernel
theorem dX2_has_6 : decode cX2_has 6 = .ok (.getfield 33, 3) := by decide +kernel
theorem dX2_has_9 : decode cX2_has 9 = .ok (.if_icmp .ge 7, 3) := by decide +kernel
theorem dX2_has_12 : decode cX2_has 12 = .ok (.iconst 1, 1) := by decide +kernel
theorem dX2_has_13 : decode cX2_has 13 = .ok (.goto 4, 3) := by decide +kernel
theorem dX2_has_16 : decode cX2_has 16 = .ok (.iconst 0, 1) := by decide +kernel
theorem dX2_has_17 : decode cX2_has 17 = .ok (.ireturn, 1) := by decide +kernel
theorem dX2_isCopy_0 : decode cX2_isCopy 0 = .ok (.aload_n 0, 1) := by decide +kernel
theorem dX2_isCopy_1 : decode cX2_isCopy 1 = .ok (.iload_n 1, 1) := by decide +kernel
theorem dX2_isCopy_2 : decode cX2_isCopy 2 = .ok (.invokevirtual 37, 3) := by decide +kernel
theorem dX2_isCopy_5 : decode cX2_isCopy 5 = .ok (.iconst (-1), 1) := by decide +kernel
theorem dX2_isCopy_6 : decode cX2_isCopy 6 = .ok (.if_icmp .eq 7, 3) := by decide +kernel
theorem dX2_isCopy_9 : decode cX2_isCopy 9 = .ok (.iconst 1, 1) := by decide +kernel
theorem dX2_isCopy_10 : decode cX2_isCopy 10 = .ok (.goto 4, 3) := by decide +kernel
theorem dX2_isCopy_13 : decode cX2_isCopy 13 = .ok (.iconst 0, 1) := by decide +kernel
theorem dX2_isCopy_14 : decode cX2_isCopy 14 = .ok (.ireturn, 1) := by decide +kernel
theorem dX2_place_0 : decode cX2_place 0 = .ok (.aload_n 0, 1) := by decide +kernel
theorem dX2_place_1 : decode cX2_place 1 = .ok (.iload_n 1, 1) := by decide +kernel
theorem dX2_place_2 : decode cX2_place 2 = .ok (.invokevirtual 41, 3) := by decide +kernel
theorem dX2_place_5 : decode cX2_place 5 = .ok (.ifCond .eq 12, 3) := by decide +kernel
theorem dX2_place_8 : decode cX2_place 8 = .ok (.aload_n 0, 1) := by decide +kernel
theorem dX2_place_9 : decode cX2_place 9 = .ok (.getfield 23, 3) := by decide +kernel
theorem dX2_place_12 : decode cX2_place 12 = .ok (.iload_n 1, 1) := by decide +kernel
theorem dX2_place_13 : decode cX2_place 13 = .ok (.iaload, 1) := by decide +kernel
theorem dX2_place_14 : decode cX2_place 14 = .ok (.goto 4, 3) := by decide +kernel
theorem dX2_place_17 : decode cX2_place 17 = .ok (.iconst (-1), 1) := by decide +kernel
theorem dX2_place_18 : decode cX2_place 18 = .ok (.ireturn, 1) := by decide +kernel
theorem dX2_length_0 : decode cX2_length 0 = .ok (.aload_n 0, 1) := by decide +kernel
theorem dX2_length_1 : decode cX2_length 1 = .ok (.iload_n 1, 1) := by decide +kernel
theorem dX2_length_2 : decode cX2_length 2 = .ok (.invokevirtual 41, 3) := by decide +kernel
theorem dX2_length_5 : decode cX2_length 5 = .ok (.ifCond .eq 12, 3) := by decide +kernel
theorem dX2_length_8 : decode cX2_length 8 = .ok (.aload_n 0, 1) := by decide +kernel
theorem dX2_length_9 : decode cX2_length 9 = .ok (.getfield 27, 3) := by decide +kernel
theorem dX2_length_12 : decode cX2_length 12 = .ok (.iload_n 1, 1) := by decide +kernel
theorem dX2_length_13 : decode cX2_length 13 = .ok (.iaload, 1) := by decide +kernel
theorem dX2_length_14 : decode cX2_length 14 = .ok (.goto 4, 3) := by decide +kernel
theorem dX2_length_17 : decode cX2_length 17 = .ok (.iconst (-1), 1) := by decide +kernel
theorem dX2_length_18 : decode cX2_length 18 = .ok (.ireturn, 1) := by decide +kernel
theorem dX2_source_0 : decode cX2_source 0 = .ok (.aload_n 0, 1) := by decide +kernel
theorem dX2_source_1 : decode cX2_source 1 = .ok (.iload_n 1, 1) := by decide +kernel
theorem dX2_source_2 : decode cX2_source 2 = .ok (.invokevirtual 41, 3) := by decide +kernel
theorem dX2_source_5 : decode cX2_source 5 = .ok (.ifCond .eq 12, 3) := by decide +kernel
theorem dX2_source_8 : decode cX2_source 8 = .ok (.aload_n 0, 1) := by decide +kernel
theorem dX2_source_9 : decode cX2_source 9 = .ok (.getfield 30, 3) := by decide +kernel
theorem dX2_source_12 : decode cX2_source 12 = .ok (.iload_n 1, 1) := by decide +kernel
theorem dX2_source_13 : decode cX2_source 13 = .ok (.iaload, 1) := by decide +kernel
theorem dX2_source_14 : decode cX2_source 14 = .ok (.goto 4, 3) := by decide +kernel
theorem dX2_source_17 : decode cX2_source 17 = .ok (.iconst (-1), 1) := by decide +kernel
theorem dX2_source_18 : decode cX2_source 18 = .ok (.ireturn, 1) := by decide +kernel
theorem dX2_writesWhereTakes_0 : decode cX2_writesWhereTakes 0 = .ok (.aload_n 0, 1) := by decide +kernel
theorem dX2_writesWhereTakes_1 : decode cX2_writesWhereTakes 1 = .ok (.iload_n 1, 1) := by decide +kernel
theorem dX2_writesWhereTakes_2 : decode cX2_writesWhereTakes 2 = .ok (.invokevirtual 41, 3) := by decide +kernel
theorem dX2_writesWhereTakes_5 : decode cX2_writesWhereTakes 5 = .ok (.ifCond .eq 59, 3) := by decide +kernel
theorem dX2_writesWhereTakes_8 : decode cX2_writesWhereTakes 8 = .ok (.aload_n 0, 1) := by decide +kernel
theorem dX2_writesWhereTakes_9 : decode cX2_writesWhereTakes 9 = .ok (.iload_n 2, 1) := by decide +kernel
theorem dX2_writesWhereTakes_10 : decode cX2_writesWhereTakes 10 = .ok (.invokevirtual 41, 3) := by decide +kernel
theorem dX2_writesWhereTakes_13 : decode cX2_writesWhereTakes 13 = .ok (.ifCond .eq 51, 3) := by decide +kernel
theorem dX2_writesWhereTakes_16 : decode cX2_writesWhereTakes 16 = .ok (.aload_n 0, 1) := by decide +kernel
theorem dX2_writesWhereTakes_17 : decode cX2_writesWhereTakes 17 = .ok (.getfield 23, 3) := by decide +kernel
theorem dX2_writesWhereTakes_20 : decode cX2_writesWhereTakes 20 = .ok (.iload_n 1, 1) := by decide +kernel
theorem dX2_writesWhereTakes_21 : decode cX2_writesWhereTakes 21 = .ok (.iaload, 1) := by decide +kernel
theorem dX2_writesWhereTakes_22 : decode cX2_writesWhereTakes 22 = .ok (.aload_n 0, 1) := by decide +kernel
theorem dX2_writesWhereTakes_23 : decode cX2_writesWhereTakes 23 = .ok (.getfield 30, 3) := by decide +kernel
theorem dX2_writesWhereTakes_26 : decode cX2_writesWhereTakes 26 = .ok (.iload_n 2, 1) := by decide +kernel
theorem dX2_writesWhereTakes_27 : decode cX2_writesWhereTakes 27 = .ok (.iaload, 1) := by decide +kernel
theorem dX2_writesWhereTakes_28 : decode cX2_writesWhereTakes 28 = .ok (.aload_n 0, 1) := by decide +kernel
theorem dX2_writesWhereTakes_29 : decode cX2_writesWhereTakes 29 = .ok (.getfield 27, 3) := by decide +kernel
theorem dX2_writesWhereTakes_32 : decode cX2_writesWhereTakes 32 = .ok (.iload_n 2, 1) := by decide +kernel
theorem dX2_writesWhereTakes_33 : decode cX2_writesWhereTakes 33 = .ok (.iaload, 1) := by decide +kernel
theorem dX2_writesWhereTakes_34 : decode cX2_writesWhereTakes 34 = .ok (.iadd, 1) := by decide +kernel
theorem dX2_writesWhereTakes_35 : decode cX2_writesWhereTakes 35 = .ok (.if_icmp .ge 29, 3) := by decide +kernel
theorem dX2_writesWhereTakes_38 : decode cX2_writesWhereTakes 38 = .ok (.aload_n 0, 1) := by decide +kernel
theorem dX2_writesWhereTakes_39 : decode cX2_writesWhereTakes 39 = .ok (.getfield 30, 3) := by decide +kernel
theorem dX2_writesWhereTakes_42 : decode cX2_writesWhereTakes 42 = .ok (.iload_n 2, 1) := by decide +kernel
theorem dX2_writesWhereTakes_43 : decode cX2_writesWhereTakes 43 = .ok (.iaload, 1) := by decide +kernel
theorem dX2_writesWhereTakes_44 : decode cX2_writesWhereTakes 44 = .ok (.aload_n 0, 1) := by decide +kernel
theorem dX2_writesWhereTakes_45 : decode cX2_writesWhereTakes 45 = .ok (.getfield 23, 3) := by decide +kernel
theorem dX2_writesWhereTakes_48 : decode cX2_writesWhereTakes 48 = .ok (.iload_n 1, 1) := by decide +kernel
theorem dX2_writesWhereTakes_49 : decode cX2_writesWhereTakes 49 = .ok (.iaload, 1) := by decide +kernel
theorem dX2_writesWhereTakes_50 : decode cX2_writesWhereTakes 50 = .ok (.aload_n 0, 1) := by decide +kernel
theorem dX2_writesWhereTakes_51 : decode cX2_writesWhereTakes 51 = .ok (.getfield 27, 3) := by decide +kernel
theorem dX2_writesWhereTakes_54 : decode cX2_writesWhereTakes 54 = .ok (.iload_n 1, 1) := by decide +kernel
theorem dX2_writesWhereTakes_55 : decode cX2_writesWhereTakes 55 = .ok (.iaload, 1) := by decide +kernel
theorem dX2_writesWhereTakes_56 : decode cX2_writesWhereTakes 56 = .ok (.iadd, 1) := by decide +kernel
theorem dX2_writesWhereTakes_57 : decode cX2_writesWhereTakes 57 = .ok (.if_icmp .ge 7, 3) := by decide +kernel
theorem dX2_writesWhereTakes_60 : decode cX2_writesWhereTakes 60 = .ok (.iconst 1, 1) := by decide +kernel
theorem dX2_writesWhereTakes_61 : decode cX2_writesWhereTakes 61 = .ok (.goto 4, 3) := by decide +kernel
theorem dX2_writesWhereTakes_64 : decode cX2_writesWhereTakes 64 = .ok (.iconst 0, 1) := by decide +kernel
theorem dX2_writesWhereTakes_65 : decode cX2_writesWhereTakes 65 = .ok (.ireturn, 1) := by decide +kernel
theorem dX2_layOut_0 : decode cX2_layOut 0 = .ok (.aload_n 0, 1) := by decide +kernel
theorem dX2_layOut_1 : decode cX2_layOut 1 = .ok (.getfield 14, 3) := by decide +kernel
theorem dX2_layOut_4 : decode cX2_layOut 4 = .ok (.aload_n 1, 1) := by decide +kernel
theorem dX2_layOut_5 : decode cX2_layOut 5 = .ok (.invokevirtual 45, 3) := by decide +kernel
theorem dX2_layOut_8 : decode cX2_layOut 8 = .ok (.aload_n 0, 1) := by decide +kernel
theorem dX2_layOut_9 : decode cX2_layOut 9 = .ok (.getfield 20, 3) := by decide +kernel
theorem dX2_layOut_12 : decode cX2_layOut 12 = .ok (.aload_n 2, 1) := by decide +kernel
theorem dX2_layOut_13 : decode cX2_layOut 13 = .ok (.invokevirtual 45, 3) := by decide +kernel
theorem dX2_layOut_16 : decode cX2_layOut 16 = .ok (.aload_n 0, 1) := by decide +kernel
theorem dX2_layOut_17 : decode cX2_layOut 17 = .ok (.iconst 0, 1) := by decide +kernel
theorem dX2_layOut_18 : decode cX2_layOut 18 = .ok (.putfield 33, 3) := by decide +kernel
theorem dX2_layOut_21 : decode cX2_layOut 21 = .ok (.iconst 0, 1) := by decide +kernel
theorem dX2_layOut_22 : decode cX2_layOut 22 = .ok (.istore_n 3, 1) := by decide +kernel
theorem dX2_layOut_23 : decode cX2_layOut 23 = .ok (.iconst 0, 1) := by decide +kernel
theorem dX2_layOut_24 : decode cX2_layOut 24 = .ok (.istore 4, 2) := by decide +kernel
theorem dX2_layOut_26 : decode cX2_layOut 26 = .ok (.iload 4, 2) := by decide +kernel
theorem dX2_layOut_28 : decode cX2_layOut 28 = .ok (.sipush 300, 3) := by decide +kernel
theorem dX2_layOut_31 : decode cX2_layOut 31 = .ok (.if_icmp .ge 74, 3) := by decide +kernel
theorem dX2_layOut_34 : decode cX2_layOut 34 = .ok (.iload_n 3, 1) := by decide +kernel
theorem dX2_layOut_35 : decode cX2_layOut 35 = .ok (.aload_n 0, 1) := by decide +kernel
theorem dX2_layOut_36 : decode cX2_layOut 36 = .ok (.getfield 20, 3) := by decide +kernel
theorem dX2_layOut_39 : decode cX2_layOut 39 = .ok (.invokevirtual 49, 3) := by decide +kernel
theorem dX2_layOut_42 : decode cX2_layOut 42 = .ok (.if_icmp .ge 63, 3) := by decide +kernel
theorem dX2_layOut_45 : decode cX2_layOut 45 = .ok (.aload_n 0, 1) := by decide +kernel
theorem dX2_layOut_46 : decode cX2_layOut 46 = .ok (.iload_n 3, 1) := by decide +kernel
theorem dX2_layOut_47 : decode cX2_layOut 47 = .ok (.invokevirtual 52, 3) := by decide +kernel
theorem dX2_layOut_50 : decode cX2_layOut 50 = .ok (.istore 5, 2) := by decide +kernel
theorem dX2_layOut_52 : decode cX2_layOut 52 = .ok (.aload_n 0, 1) := by decide +kernel
theorem dX2_layOut_53 : decode cX2_layOut 53 = .ok (.getfield 20, 3) := by decide +kernel
theorem dX2_layOut_56 : decode cX2_layOut 56 = .ok (.iload_n 3, 1) := by decide +kernel
theorem dX2_layOut_57 : decode cX2_layOut 57 = .ok (.aload_n 0, 1) := by decide +kernel
theorem dX2_layOut_58 : decode cX2_layOut 58 = .ok (.getfield 14, 3) := by decide +kernel
theorem dX2_layOut_61 : decode cX2_layOut 61 = .ok (.iload 5, 2) := by decide +kernel
theorem dX2_layOut_63 : decode cX2_layOut 63 = .ok (.invokevirtual 55, 3) := by decide +kernel
theorem dX2_layOut_66 : decode cX2_layOut 66 = .ok (.istore 6, 2) := by decide +kernel
theorem dX2_layOut_68 : decode cX2_layOut 68 = .ok (.iload 6, 2) := by decide +kernel
theorem dX2_layOut_70 : decode cX2_layOut 70 = .ok (.iconst 4, 1) := by decide +kernel
theorem dX2_layOut_71 : decode cX2_layOut 71 = .ok (.if_icmp .lt 20, 3) := by decide +kernel
theorem dX2_layOut_74 : decode cX2_layOut 74 = .ok (.aload_n 0, 1) := by decide +kernel
theorem dX2_layOut_75 : decode cX2_layOut 75 = .ok (.iload_n 3, 1) := by decide +kernel
theorem dX2_layOut_76 : decode cX2_layOut 76 = .ok (.iload 6, 2) := by decide +kernel
theorem dX2_layOut_78 : decode cX2_layOut 78 = .ok (.iload 5, 2) := by decide +kernel
theorem dX2_layOut_80 : decode cX2_layOut 80 = .ok (.invokevirtual 59, 3) := by decide +kernel
theorem dX2_layOut_83 : decode cX2_layOut 83 = .ok (.iload_n 3, 1) := by decide +kernel
theorem dX2_layOut_84 : decode cX2_layOut 84 = .ok (.iload 6, 2) := by decide +kernel
theorem dX2_layOut_86 : decode cX2_layOut 86 = .ok (.iadd, 1) := by decide +kernel
theorem dX2_layOut_87 : decode cX2_layOut 87 = .ok (.istore_n 3, 1) := by decide +kernel
theorem dX2_layOut_88 : decode cX2_layOut 88 = .ok (.goto 11, 3) := by decide +kernel
theorem dX2_layOut_91 : decode cX2_layOut 91 = .ok (.aload_n 0, 1) := by decide +kernel
theorem dX2_layOut_92 : decode cX2_layOut 92 = .ok (.iload_n 3, 1) := by decide +kernel
theorem dX2_layOut_93 : decode cX2_layOut 93 = .ok (.invokevirtual 63, 3) := by decide +kernel
theorem dX2_layOut_96 : decode cX2_layOut 96 = .ok (.iinc 3 1, 3) := by decide +kernel
theorem dX2_layOut_99 : decode cX2_layOut 99 = .ok (.iinc 4 1, 3) := by decide +kernel
theorem dX2_layOut_102 : decode cX2_layOut 102 = .ok (.goto (-76), 3) := by decide +kernel
theorem dX2_layOut_105 : decode cX2_layOut 105 = .ok (.return_, 1) := by decide +kernel
theorem dX2_placeOfLongestRun_0 : decode cX2_placeOfLongestRun 0 = .ok (.iconst 0, 1) := by decide +kernel
theorem dX2_placeOfLongestRun_1 : decode cX2_placeOfLongestRun 1 = .ok (.istore_n 2, 1) := by decide +kernel
theorem dX2_placeOfLongestRun_2 : decode cX2_placeOfLongestRun 2 = .ok (.iconst 0, 1) := by decide +kernel
theorem dX2_placeOfLongestRun_3 : decode cX2_placeOfLongestRun 3 = .ok (.istore_n 3, 1) := by decide +kernel
theorem dX2_placeOfLongestRun_4 : decode cX2_placeOfLongestRun 4 = .ok (.iconst 0, 1) := by decide +kernel
theorem dX2_placeOfLongestRun_5 : decode cX2_placeOfLongestRun 5 = .ok (.istore 4, 2) := by decide +kernel
theorem dX2_placeOfLongestRun_7 : decode cX2_placeOfLongestRun 7 = .ok (.iload 4, 2) := by decide +kernel
theorem dX2_placeOfLongestRun_9 : decode cX2_placeOfLongestRun 9 = .ok (.aload_n 0, 1) := by decide +kernel
theorem dX2_placeOfLongestRun_10 : decode cX2_placeOfLongestRun 10 = .ok (.getfield 14, 3) := by decide +kernel
theorem dX2_placeOfLongestRun_13 : decode cX2_placeOfLongestRun 13 = .ok (.invokevirtual 49, 3) := by decide +kernel
theorem dX2_placeOfLongestRun_16 : decode cX2_placeOfLongestRun 16 = .ok (.iload_n 2, 1) := by decide +kernel
theorem dX2_placeOfLongestRun_17 : decode cX2_placeOfLongestRun 17 = .ok (.isub, 1) := by decide +kernel
theorem dX2_placeOfLongestRun_18 : decode cX2_placeOfLongestRun 18 = .ok (.if_icmp .ge 37, 3) := by decide +kernel
theorem dX2_placeOfLongestRun_21 : decode cX2_placeOfLongestRun 21 = .ok (.aload_n 0, 1) := by decide +kernel
theorem dX2_placeOfLongestRun_22 : decode cX2_placeOfLongestRun 22 = .ok (.getfield 20, 3) := by decide +kernel
theorem dX2_placeOfLongestRun_25 : decode cX2_placeOfLongestRun 25 = .ok (.iload_n 1, 1) := by decide +kernel
theorem dX2_placeOfLongestRun_26 : decode cX2_placeOfLongestRun 26 = .ok (.aload_n 0, 1) := by decide +kernel
theorem dX2_placeOfLongestRun_27 : decode cX2_placeOfLongestRun 27 = .ok (.getfield 14, 3) := by decide +kernel
theorem dX2_placeOfLongestRun_30 : decode cX2_placeOfLongestRun 30 = .ok (.iload 4, 2) := by decide +kernel
theorem dX2_placeOfLongestRun_32 : decode cX2_placeOfLongestRun 32 = .ok (.invokevirtual 55, 3) := by decide +kernel
theorem dX2_placeOfLongestRun_35 : decode cX2_placeOfLongestRun 35 = .ok (.istore 5, 2) := by decide +kernel
theorem dX2_placeOfLongestRun_37 : decode cX2_placeOfLongestRun 37 = .ok (.iload 5, 2) := by decide +kernel
theorem dX2_placeOfLongestRun_39 : decode cX2_placeOfLongestRun 39 = .ok (.iload_n 2, 1) := by decide +kernel
theorem dX2_placeOfLongestRun_40 : decode cX2_placeOfLongestRun 40 = .ok (.if_icmp .le 9, 3) := by decide +kernel
theorem dX2_placeOfLongestRun_43 : decode cX2_placeOfLongestRun 43 = .ok (.iload 5, 2) := by decide +kernel
theorem dX2_placeOfLongestRun_45 : decode cX2_placeOfLongestRun 45 = .ok (.istore_n 2, 1) := by decide +kernel
theorem dX2_placeOfLongestRun_46 : decode cX2_placeOfLongestRun 46 = .ok (.iload 4, 2) := by decide +kernel
theorem dX2_placeOfLongestRun_48 : decode cX2_placeOfLongestRun 48 = .ok (.istore_n 3, 1) := by decide +kernel
theorem dX2_placeOfLongestRun_49 : decode cX2_placeOfLongestRun 49 = .ok (.iinc 4 1, 3) := by decide +kernel
theorem dX2_placeOfLongestRun_52 : decode cX2_placeOfLongestRun 52 = .ok (.goto (-45), 3) := by decide +kernel
theorem dX2_placeOfLongestRun_55 : decode cX2_placeOfLongestRun 55 = .ok (.iload_n 3, 1) := by decide +kernel
theorem dX2_placeOfLongestRun_56 : decode cX2_placeOfLongestRun 56 = .ok (.ireturn, 1) := by decide +kernel
theorem dX2_addByte_0 : decode cX2_addByte 0 = .ok (.aload_n 0, 1) := by decide +kernel
theorem dX2_addByte_1 : decode cX2_addByte 1 = .ok (.getfield 33, 3) := by decide +kernel
theorem dX2_addByte_4 : decode cX2_addByte 4 = .ok (.iconst 1, 1) := by decide +kernel
theorem dX2_addByte_5 : decode cX2_addByte 5 = .ok (.isub, 1) := by decide +kernel
theorem dX2_addByte_6 : decode cX2_addByte 6 = .ok (.istore_n 2, 1) := by decide +kernel
theorem dX2_addByte_7 : decode cX2_addByte 7 = .ok (.aload_n 0, 1) := by decide +kernel
theorem dX2_addByte_8 : decode cX2_addByte 8 = .ok (.iload_n 2, 1) := by decide +kernel
theorem dX2_addByte_9 : decode cX2_addByte 9 = .ok (.invokevirtual 41, 3) := by decide +kernel
theorem dX2_addByte_12 : decode cX2_addByte 12 = .ok (.ifCond .eq 34, 3) := by decide +kernel
theorem dX2_addByte_15 : decode cX2_addByte 15 = .ok (.aload_n 0, 1) := by decide +kernel
theorem dX2_addByte_16 : decode cX2_addByte 16 = .ok (.iload_n 2, 1) := by decide +kernel
theorem dX2_addByte_17 : decode cX2_addByte 17 = .ok (.invokevirtual 66, 3) := by decide +kernel
theorem dX2_addByte_20 : decode cX2_addByte 20 = .ok (.ifCond .ne 26, 3) := by decide +kernel
theorem dX2_addByte_23 : decode cX2_addByte 23 = .ok (.aload_n 0, 1) := by decide +kernel
theorem dX2_addByte_24 : decode cX2_addByte 24 = .ok (.iload_n 2, 1) := by decide +kernel
theorem dX2_addByte_25 : decode cX2_addByte 25 = .ok (.invokevirtual 69, 3) := by decide +kernel
theorem dX2_addByte_28 : decode cX2_addByte 28 = .ok (.bipush 40, 2) := by decide +kernel
theorem dX2_addByte_30 : decode cX2_addByte 30 = .ok (.if_icmp .ge 16, 3) := by decide +kernel
theorem dX2_addByte_33 : decode cX2_addByte 33 = .ok (.aload_n 0, 1) := by decide +kernel
theorem dX2_addByte_34 : decode cX2_addByte 34 = .ok (.getfield 27, 3) := by decide +kernel
theorem dX2_addByte_37 : decode cX2_addByte 37 = .ok (.iload_n 2, 1) := by decide +kernel
theorem dX2_addByte_38 : decode cX2_addByte 38 = .ok (.dup2, 1) := by decide +kernel
theorem dX2_addByte_39 : decode cX2_addByte 39 = .ok (.iaload, 1) := by decide +kernel
theorem dX2_addByte_40 : decode cX2_addByte 40 = .ok (.iconst 1, 1) := by decide +kernel
theorem dX2_addByte_41 : decode cX2_addByte 41 = .ok (.iadd, 1) := by decide +kernel
theorem dX2_addByte_42 : decode cX2_addByte 42 = .ok (.iastore, 1) := by decide +kernel
theorem dX2_addByte_43 : decode cX2_addByte 43 = .ok (.goto 10, 3) := by decide +kernel
theorem dX2_addByte_46 : decode cX2_addByte 46 = .ok (.aload_n 0, 1) := by decide +kernel
theorem dX2_addByte_47 : decode cX2_addByte 47 = .ok (.iload_n 1, 1) := by decide +kernel
theorem dX2_addByte_48 : decode cX2_addByte 48 = .ok (.iconst 1, 1) := by decide +kernel
theorem dX2_addByte_49 : decode cX2_addByte 49 = .ok (.iconst (-1), 1) := by decide +kernel
theorem dX2_addByte_50 : decode cX2_addByte 50 = .ok (.invokevirtual 59, 3) := by decide +kernel
theorem dX2_addByte_53 : decode cX2_addByte 53 = .ok (.return_, 1) := by decide +kernel
theorem dX2_append_0 : decode cX2_append 0 = .ok (.aload_n 0, 1) := by decide +kernel
theorem dX2_append_1 : decode cX2_append 1 = .ok (.getfield 33, 3) := by decide +kernel
theorem dX2_append_4 : decode cX2_append 4 = .ok (.sipush 300, 3) := by decide +kernel
theorem dX2_append_7 : decode cX2_append 7 = .ok (.if_icmp .ge 43, 3) := by decide +kernel
theorem dX2_append_10 : decode cX2_append 10 = .ok (.aload_n 0, 1) := by decide +kernel
theorem dX2_append_11 : decode cX2_append 11 = .ok (.getfield 23, 3) := by decide +kernel
theorem dX2_append_14 : decode cX2_append 14 = .ok (.aload_n 0, 1) := by decide +kernel
theorem dX2_append_15 : decode cX2_append 15 = .ok (.getfield 33, 3) := by decide +kernel
theorem dX2_append_18 : decode cX2_append 18 = .ok (.iload_n 1, 1) := by decide +kernel
theorem dX2_append_19 : decode cX2_append 19 = .ok (.iastore, 1) := by decide +kernel
theorem dX2_append_20 : decode cX2_append 20 = .ok (.aload_n 0, 1) := by decide +kernel
theorem dX2_append_21 : decode cX2_append 21 = .ok (.getfield 27, 3) := by decide +kernel
theorem dX2_append_24 : decode cX2_append 24 = .ok (.aload_n 0, 1) := by decide +kernel
theorem dX2_append_25 : decode cX2_append 25 = .ok (.getfield 33, 3) := by decide +kernel
theorem dX2_append_28 : decode cX2_append 28 = .ok (.iload_n 2, 1) := by decide +kernel
theorem dX2_append_29 : decode cX2_append 29 = .ok (.iastore, 1) := by decide +kernel
theorem dX2_append_30 : decode cX2_append 30 = .ok (.aload_n 0, 1) := by decide +kernel
theorem dX2_append_31 : decode cX2_append 31 = .ok (.getfield 30, 3) := by decide +kernel
theorem dX2_append_34 : decode cX2_append 34 = .ok (.aload_n 0, 1) := by decide +kernel
theorem dX2_append_35 : decode cX2_append 35 = .ok (.getfield 33, 3) := by decide +kernel
theorem dX2_append_38 : decode cX2_append 38 = .ok (.iload_n 3, 1) := by decide +kernel
theorem dX2_append_39 : decode cX2_append 39 = .ok (.iastore, 1) := by decide +kernel
theorem dX2_append_40 : decode cX2_append 40 = .ok (.aload_n 0, 1) := by decide +kernel
theorem dX2_append_41 : decode cX2_append 41 = .ok (.dup, 1) := by decide +kernel
theorem dX2_append_42 : decode cX2_append 42 = .ok (.getfield 33, 3) := by decide +kernel
theorem dX2_append_45 : decode cX2_append 45 = .ok (.iconst 1, 1) := by decide +kernel
theorem dX2_append_46 : decode cX2_append 46 = .ok (.iadd, 1) := by decide +kernel
theorem dX2_append_47 : decode cX2_append 47 = .ok (.putfield 33, 3) := by decide +kernel
theorem dX2_append_50 : decode cX2_append 50 = .ok (.return_, 1) := by decide +kernel
theorem dX2_writeTo_0 : decode cX2_writeTo 0 = .ok (.aload_n 1, 1) := by decide +kernel
theorem dX2_writeTo_1 : decode cX2_writeTo 1 = .ok (.invokevirtual 72, 3) := by decide +kernel
theorem dX2_writeTo_4 : decode cX2_writeTo 4 = .ok (.aload_n 1, 1) := by decide +kernel
theorem dX2_writeTo_5 : decode cX2_writeTo 5 = .ok (.aload_n 0, 1) := by decide +kernel
theorem dX2_writeTo_6 : decode cX2_writeTo 6 = .ok (.getfield 14, 3) := by decide +kernel
theorem dX2_writeTo_9 : decode cX2_writeTo 9 = .ok (.invokevirtual 49, 3) := by decide +kernel
theorem dX2_writeTo_12 : decode cX2_writeTo 12 = .ok (.invokevirtual 75, 3) := by decide +kernel
theorem dX2_writeTo_15 : decode cX2_writeTo 15 = .ok (.aload_n 1, 1) := by decide +kernel
theorem dX2_writeTo_16 : decode cX2_writeTo 16 = .ok (.aload_n 0, 1) := by decide +kernel
theorem dX2_writeTo_17 : decode cX2_writeTo 17 = .ok (.getfield 20, 3) := by decide +kernel
theorem dX2_writeTo_20 : decode cX2_writeTo 20 = .ok (.invokevirtual 49, 3) := by decide +kernel
theorem dX2_writeTo_23 : decode cX2_writeTo 23 = .ok (.invokevirtual 75, 3) := by decide +kernel
theorem dX2_writeTo_26 : decode cX2_writeTo 26 = .ok (.aload_n 1, 1) := by decide +kernel
theorem dX2_writeTo_27 : decode cX2_writeTo 27 = .ok (.aload_n 0, 1) := by decide +kernel
theorem dX2_writeTo_28 : decode cX2_writeTo 28 = .ok (.getfield 14, 3) := by decide +kernel
theorem dX2_writeTo_31 : decode cX2_writeTo 31 = .ok (.invokevirtual 78, 3) := by decide +kernel
theorem dX2_writeTo_34 : decode cX2_writeTo 34 = .ok (.invokevirtual 81, 3) := by decide +kernel
theorem dX2_writeTo_37 : decode cX2_writeTo 37 = .ok (.aload_n 1, 1) := by decide +kernel
theorem dX2_writeTo_38 : decode cX2_writeTo 38 = .ok (.aload_n 0, 1) := by decide +kernel
theorem dX2_writeTo_39 : decode cX2_writeTo 39 = .ok (.getfield 20, 3) := by decide +kernel
theorem dX2_writeTo_42 : decode cX2_writeTo 42 = .ok (.invokevirtual 78, 3) := by decide +kernel
theorem dX2_writeTo_45 : decode cX2_writeTo 45 = .ok (.invokevirtual 81, 3) := by decide +kernel
theorem dX2_writeTo_48 : decode cX2_writeTo 48 = .ok (.iconst 0, 1) := by decide +kernel
theorem dX2_writeTo_49 : decode cX2_writeTo 49 = .ok (.istore_n 2, 1) := by decide +kernel
theorem dX2_writeTo_50 : decode cX2_writeTo 50 = .ok (.iconst 0, 1) := by decide +kernel
theorem dX2_writeTo_51 : decode cX2_writeTo 51 = .ok (.istore_n 3, 1) := by decide +kernel
theorem dX2_writeTo_52 : decode cX2_writeTo 52 = .ok (.iload_n 3, 1) := by decide +kernel
theorem dX2_writeTo_53 : decode cX2_writeTo 53 = .ok (.aload_n 0, 1) := by decide +kernel
theorem dX2_writeTo_54 : decode cX2_writeTo 54 = .ok (.getfield 33, 3) := by decide +kernel
theorem dX2_writeTo_57 : decode cX2_writeTo 57 = .ok (.if_icmp .ge 88, 3) := by decide +kernel
theorem dX2_writeTo_60 : decode cX2_writeTo 60 = .ok (.aload_n 0, 1) := by decide +kernel
theorem dX2_writeTo_61 : decode cX2_writeTo 61 = .ok (.iload_n 3, 1) := by decide +kernel
theorem dX2_writeTo_62 : decode cX2_writeTo 62 = .ok (.invokevirtual 66, 3) := by decide +kernel
theorem dX2_writeTo_65 : decode cX2_writeTo 65 = .ok (.ifCond .eq 45, 3) := by decide +kernel
theorem dX2_writeTo_68 : decode cX2_writeTo 68 = .ok (.aload_n 1, 1) := by decide +kernel
theorem dX2_writeTo_69 : decode cX2_writeTo 69 = .ok (.iconst 2, 1) := by decide +kernel
theorem dX2_writeTo_70 : decode cX2_writeTo 70 = .ok (.aload_n 0, 1) := by decide +kernel
theorem dX2_writeTo_71 : decode cX2_writeTo 71 = .ok (.iload_n 3, 1) := by decide +kernel
theorem dX2_writeTo_72 : decode cX2_writeTo 72 = .ok (.invokevirtual 69, 3) := by decide +kernel
theorem dX2_writeTo_75 : decode cX2_writeTo 75 = .ok (.imul, 1) := by decide +kernel
theorem dX2_writeTo_76 : decode cX2_writeTo 76 = .ok (.iconst 1, 1) := by decide +kernel
theorem dX2_writeTo_77 : decode cX2_writeTo 77 = .ok (.iadd, 1) := by decide +kernel
theorem dX2_writeTo_78 : decode cX2_writeTo 78 = .ok (.invokevirtual 75, 3) := by decide +kernel
theorem dX2_writeTo_81 : decode cX2_writeTo 81 = .ok (.aload_n 1, 1) := by decide +kernel
theorem dX2_writeTo_82 : decode cX2_writeTo 82 = .ok (.aload_n 0, 1) := by decide +kernel
theorem dX2_writeTo_83 : decode cX2_writeTo 83 = .ok (.iload_n 3, 1) := by decide +kernel
theorem dX2_writeTo_84 : decode cX2_writeTo 84 = .ok (.invokevirtual 37, 3) := by decide +kernel
theorem dX2_writeTo_87 : decode cX2_writeTo 87 = .ok (.iload_n 2, 1) := by decide +kernel
theorem dX2_writeTo_88 : decode cX2_writeTo 88 = .ok (.isub, 1) := by decide +kernel
theorem dX2_writeTo_89 : decode cX2_writeTo 89 = .ok (.invokestatic 84, 3) := by decide +kernel
theorem dX2_writeTo_92 : decode cX2_writeTo 92 = .ok (.invokevirtual 75, 3) := by decide +kernel
theorem dX2_writeTo_95 : decode cX2_writeTo 95 = .ok (.aload_n 0, 1) := by decide +kernel
theorem dX2_writeTo_96 : decode cX2_writeTo 96 = .ok (.iload_n 3, 1) := by decide +kernel
theorem dX2_writeTo_97 : decode cX2_writeTo 97 = .ok (.invokevirtual 37, 3) := by decide +kernel
theorem dX2_writeTo_100 : decode cX2_writeTo 100 = .ok (.aload_n 0, 1) := by decide +kernel
theorem dX2_writeTo_101 : decode cX2_writeTo 101 = .ok (.iload_n 3, 1) := by decide +kernel
theorem dX2_writeTo_102 : decode cX2_writeTo 102 = .ok (.invokevirtual 69, 3) := by decide +kernel
theorem dX2_writeTo_105 : decode cX2_writeTo 105 = .ok (.iadd, 1) := by decide +kernel
theorem dX2_writeTo_106 : decode cX2_writeTo 106 = .ok (.istore_n 2, 1) := by decide +kernel
theorem dX2_writeTo_107 : decode cX2_writeTo 107 = .ok (.goto 32, 3) := by decide +kernel
theorem dX2_writeTo_110 : decode cX2_writeTo 110 = .ok (.aload_n 1, 1) := by decide +kernel
theorem dX2_writeTo_111 : decode cX2_writeTo 111 = .ok (.iconst 2, 1) := by decide +kernel
theorem dX2_writeTo_112 : decode cX2_writeTo 112 = .ok (.aload_n 0, 1) := by decide +kernel
theorem dX2_writeTo_113 : decode cX2_writeTo 113 = .ok (.iload_n 3, 1) := by decide +kernel
theorem dX2_writeTo_114 : decode cX2_writeTo 114 = .ok (.invokevirtual 69, 3) := by decide +kernel
theorem dX2_writeTo_117 : decode cX2_writeTo 117 = .ok (.imul, 1) := by decide +kernel
theorem dX2_writeTo_118 : decode cX2_writeTo 118 = .ok (.invokevirtual 75, 3) := by decide +kernel
theorem dX2_writeTo_121 : decode cX2_writeTo 121 = .ok (.aload_n 1, 1) := by decide +kernel
theorem dX2_writeTo_122 : decode cX2_writeTo 122 = .ok (.aload_n 0, 1) := by decide +kernel
theorem dX2_writeTo_123 : decode cX2_writeTo 123 = .ok (.getfield 20, 3) := by decide +kernel
theorem dX2_writeTo_126 : decode cX2_writeTo 126 = .ok (.aload_n 0, 1) := by decide +kernel
theorem dX2_writeTo_127 : decode cX2_writeTo 127 = .ok (.iload_n 3, 1) := by decide +kernel
theorem dX2_writeTo_128 : decode cX2_writeTo 128 = .ok (.invokevirtual 87, 3) := by decide +kernel
theorem dX2_writeTo_131 : decode cX2_writeTo 131 = .ok (.aload_n 0, 1) := by decide +kernel
theorem dX2_writeTo_132 : decode cX2_writeTo 132 = .ok (.iload_n 3, 1) := by decide +kernel
theorem dX2_writeTo_133 : decode cX2_writeTo 133 = .ok (.invokevirtual 69, 3) := by decide +kernel
theorem dX2_writeTo_136 : decode cX2_writeTo 136 = .ok (.invokevirtual 90, 3) := by decide +kernel
theorem dX2_writeTo_139 : decode cX2_writeTo 139 = .ok (.iinc 3 1, 3) := by decide +kernel
theorem dX2_writeTo_142 : decode cX2_writeTo 142 = .ok (.goto (-90), 3) := by decide +kernel
theorem dX2_writeTo_145 : decode cX2_writeTo 145 = .ok (.return_, 1) := by decide +kernel
theorem dX2_withoutSign_0 : decode cX2_withoutSign 0 = .ok (.iload_n 0, 1) := by decide +kernel
theorem dX2_withoutSign_1 : decode cX2_withoutSign 1 = .ok (.ifCond .ge 12, 3) := by decide +kernel
theorem dX2_withoutSign_4 : decode cX2_withoutSign 4 = .ok (.bipush (-2), 2) := by decide +kernel
theorem dX2_withoutSign_6 : decode cX2_withoutSign 6 = .ok (.iload_n 0, 1) := by decide +kernel
theorem dX2_withoutSign_7 : decode cX2_withoutSign 7 = .ok (.imul, 1) := by decide +kernel
theorem dX2_withoutSign_8 : decode cX2_withoutSign 8 = .ok (.iconst 1, 1) := by decide +kernel
theorem dX2_withoutSign_9 : decode cX2_withoutSign 9 = .ok (.isub, 1) := by decide +kernel
theorem dX2_withoutSign_10 : decode cX2_withoutSign 10 = .ok (.goto 6, 3) := by decide +kernel
theorem dX2_withoutSign_13 : decode cX2_withoutSign 13 = .ok (.iconst 2, 1) := by decide +kernel
theorem dX2_withoutSign_14 : decode cX2_withoutSign 14 = .ok (.iload_n 0, 1) := by decide +kernel
theorem dX2_withoutSign_15 : decode cX2_withoutSign 15 = .ok (.imul, 1) := by decide +kernel
theorem dX2_withoutSign_16 : decode cX2_withoutSign 16 = .ok (.ireturn, 1) := by decide +kernel
