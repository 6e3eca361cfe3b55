theorem dX5_init_0 : decode cX5_init 0 = .ok (.aload_n 0, 1) := by decide +kernel
theorem dX5_init_1 : decode cX5_init 1 = .ok (.invokespecial 1, 3) := by decide +kernel
theorem dX5_init_4 : decode cX5_init 4 = .ok (.aload_n 0, 1) := by decide +kernel
theorem dX5_init_5 : decode cX5_init 5 = .ok (.sipush 900, 3) := by decide +kernel
theorem dX5_init_8 : decode cX5_init 8 = .ok (.newarray .int, 2) := by decide +kernel
theorem dX5_init_10 : decode cX5_init 10 = .ok (.putfield 7, 3) := by decide +kernel
theorem dX5_init_13 : decode cX5_init 13 = .ok (.aload_n 0, 1) := by decide +kernel
theorem dX5_init_14 : decode cX5_init 14 = .ok (.sipush 300, 3) := by decide +kernel
theorem dX5_init_17 : decode cX5_init 17 = .ok (.newarray .int, 2) := by decide +kernel
theorem dX5_init_19 : decode cX5_init 19 = .ok (.putfield 13, 3) := by decide +kernel
theorem dX5_init_22 : decode cX5_init 22 = .ok (.aload_n 0, 1) := by decide +kernel
theorem dX5_init_23 : decode cX5_init 23 = .ok (.sipush 300, 3) := by decide +kernel
theorem dX5_init_26 : decode cX5_init 26 = .ok (.newarray .int, 2) := by decide +kernel
theorem dX5_init_28 : decode cX5_init 28 = .ok (.putfield 16, 3) := by decide +kernel
theorem dX5_init_31 : decode cX5_init 31 = .ok (.aload_n 0, 1) := by decide +kernel
theorem dX5_init_32 : decode cX5_init 32 = .ok (.sipush 900, 3) := by decide +kernel
theorem dX5_init_35 : decode cX5_init 35 = .ok (.newarray .int, 2) := by decide +kernel
theorem dX5_init_37 : decode cX5_init 37 = .ok (.putfield 19, 3) := by decide +kernel
theorem dX5_init_40 : decode cX5_init 40 = .ok (.aload_n 0, 1) := by decide +kernel
theorem dX5_init_41 : decode cX5_init 41 = .ok (.sipush 300, 3) := by decide +kernel
theorem dX5_init_44 : decode cX5_init 44 = .ok (.newarray .int, 2) := by decide +kernel
theorem dX5_init_46 : decode cX5_init 46 = .ok (.putfield 22, 3) := by decide +kernel
theorem dX5_init_49 : decode cX5_init 49 = .ok (.aload_n 0, 1) := by decide +kernel
theorem dX5_init_50 : decode cX5_init 50 = .ok (.sipush 300, 3) := by decide +kernel
theorem dX5_init_53 : decode cX5_init 53 = .ok (.newarray .int, 2) := by decide +kernel
theorem dX5_init_55 : decode cX5_init 55 = .ok (.putfield 25, 3) := by decide +kernel
theorem dX5_init_58 : decode cX5_init 58 = .ok (.aload_n 0, 1) := by decide +kernel
theorem dX5_init_59 : decode cX5_init 59 = .ok (.sipush 300, 3) := by decide +kernel
theorem dX5_init_62 : decode cX5_init 62 = .ok (.newarray .int, 2) := by decide +kernel
theorem dX5_init_64 : decode cX5_init 64 = .ok (.putfield 28, 3) := by decide +kernel
theorem dX5_init_67 : decode cX5_init 67 = .ok (.aload_n 0, 1) := by decide +kernel
theorem dX5_init_68 : decode cX5_init 68 = .ok (.sipush 300, 3) := by decide +kernel
theorem dX5_init_71 : decode cX5_init 71 = .ok (.newarray .int, 2) := by decide +kernel
theorem dX5_init_73 : decode cX5_init 73 = .ok (.putfield 31, 3) := by decide +kernel
theorem dX5_init_76 : decode cX5_init 76 = .ok (.aload_n 0, 1) := by decide +kernel
theorem dX5_init_77 : decode cX5_init 77 = .ok (.sipush 300, 3) := by decide +kernel
theorem dX5_init_80 : decode cX5_init 80 = .ok (.newarray .int, 2) := by decide +kernel
theorem dX5_init_82 : decode cX5_init 82 = .ok (.putfield 34, 3) := by decide +kernel
theorem dX5_init_85 : decode cX5_init 85 = .ok (.aload_n 0, 1) := by decide +kernel
theorem dX5_init_86 : decode cX5_init 86 = .ok (.sipush 300, 3) := by decide +kernel
theorem dX5_init_89 : decode cX5_init 89 = .ok (.newarray .int, 2) := by decide +kernel
theorem dX5_init_91 : decode cX5_init 91 = .ok (.putfield 37, 3) := by decide +kernel
theorem dX5_init_94 : decode cX5_init 94 = .ok (.aload_n 0, 1) := by decide +kernel
theorem dX5_init_95 : decode cX5_init 95 = .ok (.sipush 300, 3) := by decide +kernel
theorem dX5_init_98 : decode cX5_init 98 = .ok (.newarray .int, 2) := by decide +kernel
theorem dX5_init_100 : decode cX5_init 100 = .ok (.putfield 40, 3) := by decide +kernel
theorem dX5_init_103 : decode cX5_init 103 = .ok (.aload_n 0, 1) := by decide +kernel
theorem dX5_init_104 : decode cX5_init 104 = .ok (.sipush 300, 3) := by decide +kernel
theorem dX5_init_107 : decode cX5_init 107 = .ok (.newarray .int, 2) := by decide +kernel
theorem dX5_init_109 : decode cX5_init 109 = .ok (.putfield 43, 3) := by decide +kernel
theorem dX5_init_112 : decode cX5_init 112 = .ok (.aload_n 0, 1) := by decide +kernel
theorem dX5_init_113 : decode cX5_init 113 = .ok (.sipush 300, 3) := by decide +kernel
theorem dX5_init_116 : decode cX5_init 116 = .ok (.newarray .int, 2) := by decide +kernel
theorem dX5_init_118 : decode cX5_init 118 = .ok (.putfield 46, 3) := by decide +kernel
theorem dX5_init_121 : decode cX5_init 121 = .ok (.aload_n 0, 1) := by decide +kernel
theorem dX5_init_122 : decode cX5_init 122 = .ok (.sipush 300, 3) := by decide +kernel
theorem dX5_init_125 : decode cX5_init 125 = .ok (.newarray .int, 2) := by decide +kernel
theorem dX5_init_127 : decode cX5_init 127 = .ok (.putfield 49, 3) := by decide +kernel
theorem dX5_init_130 : decode cX5_init 130 = .ok (.return_, 1) := by decide +kernel
theorem dX5_feed_0 : decode cX5_feed 0 = .ok (.aload_n 0, 1) := by decide +kernel
theorem dX5_feed_1 : decode cX5_feed 1 = .ok (.iconst 0, 1) := by decide +kernel
theorem dX5_feed_2 : decode cX5_feed 2 = .ok (.putfield 52, 3) := by decide +kernel
theorem dX5_feed_5 : decode cX5_feed 5 = .ok (.iload_n 3, 1) := by decide +kernel
theorem dX5_feed_6 : decode cX5_feed 6 = .ok (.iconst 1, 1) := by decide +kernel
theorem dX5_feed_7 : decode cX5_feed 7 = .ok (.if_icmp .lt 21, 3) := by decide +kernel
theorem dX5_feed_10 : decode cX5_feed 10 = .ok (.iload_n 3, 1) := by decide +kernel
theorem dX5_feed_11 : decode cX5_feed 11 = .ok (.bipush 8, 2) := by decide +kernel
theorem dX5_feed_13 : decode cX5_feed 13 = .ok (.if_icmp .gt 15, 3) := by decide +kernel
theorem dX5_feed_16 : decode cX5_feed 16 = .ok (.aload_n 0, 1) := by decide +kernel
theorem dX5_feed_17 : decode cX5_feed 17 = .ok (.getfield 56, 3) := by decide +kernel
theorem dX5_feed_20 : decode cX5_feed 20 = .ok (.iload_n 3, 1) := by decide +kernel
theorem dX5_feed_21 : decode cX5_feed 21 = .ok (.iadd, 1) := by decide +kernel
theorem dX5_feed_22 : decode cX5_feed 22 = .ok (.sipush 900, 3) := by decide +kernel
theorem dX5_feed_25 : decode cX5_feed 25 = .ok (.if_icmp .le 5, 3) := by decide +kernel
theorem dX5_feed_28 : decode cX5_feed 28 = .ok (.iconst 0, 1) := by decide +kernel
theorem dX5_feed_29 : decode cX5_feed 29 = .ok (.ireturn, 1) := by decide +kernel
theorem dX5_feed_30 : decode cX5_feed 30 = .ok (.iload_n 3, 1) := by decide +kernel
theorem dX5_feed_31 : decode cX5_feed 31 = .ok (.iconst 1, 1) := by decide +kernel
theorem dX5_feed_32 : decode cX5_feed 32 = .ok (.isub, 1) := by decide +kernel
theorem dX5_feed_33 : decode cX5_feed 33 = .ok (.istore 4, 2) := by decide +kernel
theorem dX5_feed_35 : decode cX5_feed 35 = .ok (.iload 4, 2) := by decide +kernel
theorem dX5_feed_37 : decode cX5_feed 37 = .ok (.ifCond .lt 40, 3) := by decide +kernel
theorem dX5_feed_40 : decode cX5_feed 40 = .ok (.aload_n 0, 1) := by decide +kernel
theorem dX5_feed_41 : decode cX5_feed 41 = .ok (.getfield 7, 3) := by decide +kernel
theorem dX5_feed_44 : decode cX5_feed 44 = .ok (.aload_n 0, 1) := by decide +kernel
theorem dX5_feed_45 : decode cX5_feed 45 = .ok (.getfield 56, 3) := by decide +kernel
theorem dX5_feed_48 : decode cX5_feed 48 = .ok (.lload_n 1, 1) := by decide +kernel
theorem dX5_feed_49 : decode cX5_feed 49 = .ok (.bipush 8, 2) := by decide +kernel
theorem dX5_feed_51 : decode cX5_feed 51 = .ok (.iload 4, 2) := by decide +kernel
theorem dX5_feed_53 : decode cX5_feed 53 = .ok (.imul, 1) := by decide +kernel
theorem dX5_feed_54 : decode cX5_feed 54 = .ok (.lshr, 1) := by decide +kernel
theorem dX5_feed_55 : decode cX5_feed 55 = .ok (.ldc2_w 59, 3) := by decide +kernel
theorem dX5_feed_58 : decode cX5_feed 58 = .ok (.land, 1) := by decide +kernel
theorem dX5_feed_59 : decode cX5_feed 59 = .ok (.l2i, 1) := by decide +kernel
theorem dX5_feed_60 : decode cX5_feed 60 = .ok (.iastore, 1) := by decide +kernel
theorem dX5_feed_61 : decode cX5_feed 61 = .ok (.aload_n 0, 1) := by decide +kernel
theorem dX5_feed_62 : decode cX5_feed 62 = .ok (.dup, 1) := by decide +kernel
theorem dX5_feed_63 : decode cX5_feed 63 = .ok (.getfield 56, 3) := by decide +kernel
theorem dX5_feed_66 : decode cX5_feed 66 = .ok (.iconst 1, 1) := by decide +kernel
theorem dX5_feed_67 : decode cX5_feed 67 = .ok (.iadd, 1) := by decide +kernel
theorem dX5_feed_68 : decode cX5_feed 68 = .ok (.putfield 56, 3) := by decide +kernel
theorem dX5_feed_71 : decode cX5_feed 71 = .ok (.iinc 4 (-1), 3) := by decide +kernel
theorem dX5_feed_74 : decode cX5_feed 74 = .ok (.goto (-39), 3) := by decide +kernel
theorem dX5_feed_77 : decode cX5_feed 77 = .ok (.iconst 1, 1) := by decide +kernel
theorem dX5_feed_78 : decode cX5_feed 78 = .ok (.ireturn, 1) := by decide +kernel
theorem dX5_take_0 : decode cX5_take 0 = .ok (.aload_n 0, 1) := by decide +kernel
theorem dX5_take_1 : decode cX5_take 1 = .ok (.iconst 0, 1) := by decide +kernel
theorem dX5_take_2 : decode cX5_take 2 = .ok (.putfield 52, 3) := by decide +kernel
theorem dX5_take_5 : decode cX5_take 5 = .ok (.iload_n 1, 1) := by decide +kernel
theorem dX5_take_6 : decode cX5_take 6 = .ok (.ifCond .lt 29, 3) := by decide +kernel
theorem dX5_take_9 : decode cX5_take 9 = .ok (.iload_n 1, 1) := by decide +kernel
theorem dX5_take_10 : decode cX5_take 10 = .ok (.iconst 2, 1) := by decide +kernel
theorem dX5_take_11 : decode cX5_take 11 = .ok (.if_icmp .gt 24, 3) := by decide +kernel
theorem dX5_take_14 : decode cX5_take 14 = .ok (.aload_n 0, 1) := by decide +kernel
theorem dX5_take_15 : decode cX5_take 15 = .ok (.getfield 56, 3) := by decide +kernel
theorem dX5_take_18 : decode cX5_take 18 = .ok (.iload_n 1, 1) := by decide +kernel
theorem dX5_take_19 : decode cX5_take 19 = .ok (.iconst 2, 1) := by decide +kernel
theorem dX5_take_20 : decode cX5_take 20 = .ok (.if_icmp .ge 9, 3) := by decide +kernel
theorem dX5_take_23 : decode cX5_take 23 = .ok (.sipush 300, 3) := by decide +kernel
theorem dX5_take_26 : decode cX5_take 26 = .ok (.goto 6, 3) := by decide +kernel
theorem dX5_take_29 : decode cX5_take 29 = .ok (.sipush 900, 3) := by decide +kernel
theorem dX5_take_32 : decode cX5_take 32 = .ok (.if_icmp .le 5, 3) := by decide +kernel
theorem dX5_take_35 : decode cX5_take 35 = .ok (.iconst 0, 1) := by decide +kernel
theorem dX5_take_36 : decode cX5_take 36 = .ok (.ireturn, 1) := by decide +kernel
theorem dX5_take_37 : decode cX5_take 37 = .ok (.iconst 0, 1) := by decide +kernel
theorem dX5_take_38 : decode cX5_take 38 = .ok (.istore_n 2, 1) := by decide +kernel
theorem dX5_take_39 : decode cX5_take 39 = .ok (.iload_n 2, 1) := by decide +kernel
theorem dX5_take_40 : decode cX5_take 40 = .ok (.aload_n 0, 1) := by decide +kernel
theorem dX5_take_41 : decode cX5_take 41 = .ok (.getfield 56, 3) := by decide +kernel
theorem dX5_take_44 : decode cX5_take 44 = .ok (.if_icmp .ge 60, 3) := by decide +kernel
theorem dX5_take_47 : decode cX5_take 47 = .ok (.iload_n 1, 1) := by decide +kernel
theorem dX5_take_48 : decode cX5_take 48 = .ok (.ifCond .ne 18, 3) := by decide +kernel
theorem dX5_take_51 : decode cX5_take 51 = .ok (.aload_n 0, 1) := by decide +kernel
theorem dX5_take_52 : decode cX5_take 52 = .ok (.getfield 13, 3) := by decide +kernel
theorem dX5_take_55 : decode cX5_take 55 = .ok (.iload_n 2, 1) := by decide +kernel
theorem dX5_take_56 : decode cX5_take 56 = .ok (.aload_n 0, 1) := by decide +kernel
theorem dX5_take_57 : decode cX5_take 57 = .ok (.getfield 7, 3) := by decide +kernel
theorem dX5_take_60 : decode cX5_take 60 = .ok (.iload_n 2, 1) := by decide +kernel
theorem dX5_take_61 : decode cX5_take 61 = .ok (.iaload, 1) := by decide +kernel
theorem dX5_take_62 : decode cX5_take 62 = .ok (.iastore, 1) := by decide +kernel
theorem dX5_take_63 : decode cX5_take 63 = .ok (.goto 35, 3) := by decide +kernel
theorem dX5_take_66 : decode cX5_take 66 = .ok (.iload_n 1, 1) := by decide +kernel
theorem dX5_take_67 : decode cX5_take 67 = .ok (.iconst 1, 1) := by decide +kernel
theorem dX5_take_68 : decode cX5_take 68 = .ok (.if_icmp .ne 18, 3) := by decide +kernel
theorem dX5_take_71 : decode cX5_take 71 = .ok (.aload_n 0, 1) := by decide +kernel
theorem dX5_take_72 : decode cX5_take 72 = .ok (.getfield 16, 3) := by decide +kernel
theorem dX5_take_75 : decode cX5_take 75 = .ok (.iload_n 2, 1) := by decide +kernel
theorem dX5_take_76 : decode cX5_take 76 = .ok (.aload_n 0, 1) := by decide +kernel
theorem dX5_take_77 : decode cX5_take 77 = .ok (.getfield 7, 3) := by decide +kernel
theorem dX5_take_80 : decode cX5_take 80 = .ok (.iload_n 2, 1) := by decide +kernel
theorem dX5_take_81 : decode cX5_take 81 = .ok (.iaload, 1) := by decide +kernel
theorem dX5_take_82 : decode cX5_take 82 = .ok (.iastore, 1) := by decide +kernel
theorem dX5_take_83 : decode cX5_take 83 = .ok (.goto 15, 3) := by decide +kernel
theorem dX5_take_86 : decode cX5_take 86 = .ok (.aload_n 0, 1) := by decide +kernel
theorem dX5_take_87 : decode cX5_take 87 = .ok (.getfield 19, 3) := by decide +kernel
theorem dX5_take_90 : decode cX5_take 90 = .ok (.iload_n 2, 1) := by decide +kernel
theorem dX5_take_91 : decode cX5_take 91 = .ok (.aload_n 0, 1) := by decide +kernel
theorem dX5_take_92 : decode cX5_take 92 = .ok (.getfield 7, 3) := by decide +kernel
theorem dX5_take_95 : decode cX5_take 95 = .ok (.iload_n 2, 1) := by decide +kernel
theorem dX5_take_96 : decode cX5_take 96 = .ok (.iaload, 1) := by decide +kernel
theorem dX5_take_97 : decode cX5_take 97 = .ok (.iastore, 1) := by decide +kernel
theorem dX5_take_98 : decode cX5_take 98 = .ok (.iinc 2 1, 3) := by decide +kernel
theorem dX5_take_101 : decode cX5_take 101 = .ok (.goto (-62), 3) := by decide +kernel
theorem dX5_take_104 : decode cX5_take 104 = .ok (.iload_n 1, 1) := by decide +kernel
theorem dX5_take_105 : decode cX5_take 105 = .ok (.ifCond .ne 14, 3) := by decide +kernel
theorem dX5_take_108 : decode cX5_take 108 = .ok (.aload_n 0, 1) := by decide +kernel
theorem dX5_take_109 : decode cX5_take 109 = .ok (.aload_n 0, 1) := by decide +kernel
theorem dX5_take_110 : decode cX5_take 110 = .ok (.getfield 56, 3) := by decide +kernel
theorem dX5_take_113 : decode cX5_take 113 = .ok (.putfield 61, 3) := by decide +kernel
theorem dX5_take_116 : decode cX5_take 116 = .ok (.goto 27, 3) := by decide +kernel
theorem dX5_take_119 : decode cX5_take 119 = .ok (.iload_n 1, 1) := by decide +kernel
theorem dX5_take_120 : decode cX5_take 120 = .ok (.iconst 1, 1) := by decide +kernel
theorem dX5_take_121 : decode cX5_take 121 = .ok (.if_icmp .ne 14, 3) := by decide +kernel
theorem dX5_take_124 : decode cX5_take 124 = .ok (.aload_n 0, 1) := by decide +kernel
theorem dX5_take_125 : decode cX5_take 125 = .ok (.aload_n 0, 1) := by decide +kernel
theorem dX5_take_126 : decode cX5_take 126 = .ok (.getfield 56, 3) := by decide +kernel
theorem dX5_take_129 : decode cX5_take 129 = .ok (.putfield 64, 3) := by decide +kernel
theorem dX5_take_132 : decode cX5_take 132 = .ok (.goto 11, 3) := by decide +kernel
theorem dX5_take_135 : decode cX5_take 135 = .ok (.aload_n 0, 1) := by decide +kernel
theorem dX5_take_136 : decode cX5_take 136 = .ok (.aload_n 0, 1) := by decide +kernel
theorem dX5_take_137 : decode cX5_take 137 = .ok (.getfield 56, 3) := by decide +kernel
theorem dX5_take_140 : decode cX5_take 140 = .ok (.putfield 67, 3) := by decide +kernel
theorem dX5_take_143 : decode cX5_take 143 = .ok (.aload_n 0, 1) := by decide +kernel
theorem dX5_take_144 : decode cX5_take 144 = .ok (.iconst 0, 1) := by decide +kernel
theorem dX5_take_145 : decode cX5_take 145 = .ok (.putfield 56, 3) := by decide +kernel
theorem dX5_take_148 : decode cX5_take 148 = .ok (.iconst 1, 1) := by decide +kernel
theorem dX5_take_149 : decode cX5_take 149 = .ok (.ireturn, 1) := by decide +kernel
theorem dX5_sizeOf_0 : decode cX5_sizeOf 0 = .ok (.iload_n 1, 1) := by decide +kernel
theorem dX5_sizeOf_1 : decode cX5_sizeOf 1 = .ok (.ifCond .ne 10, 3) := by decide +kernel
theorem dX5_sizeOf_4 : decode cX5_sizeOf 4 = .ok (.aload_n 0, 1) := by decide +kernel
theorem dX5_sizeOf_5 : decode cX5_sizeOf 5 = .ok (.getfield 61, 3) := by decide +kernel
theorem dX5_sizeOf_8 : decode cX5_sizeOf 8 = .ok (.goto 52, 3) := by decide +kernel
theorem dX5_sizeOf_11 : decode cX5_sizeOf 11 = .ok (.iload_n 1, 1) := by decide +kernel
theorem dX5_sizeOf_12 : decode cX5_sizeOf 12 = .ok (.iconst 1, 1) := by decide +kernel
theorem dX5_sizeOf_13 : decode cX5_sizeOf 13 = .ok (.if_icmp .ne 10, 3) := by decide +kernel
theorem dX5_sizeOf_16 : decode cX5_sizeOf 16 = .ok (.aload_n 0, 1) := by decide +kernel
theorem dX5_sizeOf_17 : decode cX5_sizeOf 17 = .ok (.getfield 64, 3) := by decide +kernel
theorem dX5_sizeOf_20 : decode cX5_sizeOf 20 = .ok (.goto 40, 3) := by decide +kernel
theorem dX5_sizeOf_23 : decode cX5_sizeOf 23 = .ok (.iload_n 1, 1) := by decide +kernel
theorem dX5_sizeOf_24 : decode cX5_sizeOf 24 = .ok (.iconst 2, 1) := by decide +kernel
theorem dX5_sizeOf_25 : decode cX5_sizeOf 25 = .ok (.if_icmp .ne 10, 3) := by decide +kernel
theorem dX5_sizeOf_28 : decode cX5_sizeOf 28 = .ok (.aload_n 0, 1) := by decide +kernel
theorem dX5_sizeOf_29 : decode cX5_sizeOf 29 = .ok (.getfield 67, 3) := by decide +kernel
theorem dX5_sizeOf_32 : decode cX5_sizeOf 32 = .ok (.goto 28, 3) := by decide +kernel
theorem dX5_sizeOf_35 : decode cX5_sizeOf 35 = .ok (.iload_n 1, 1) := by decide +kernel
theorem dX5_sizeOf_36 : decode cX5_sizeOf 36 = .ok (.iconst 3, 1) := by decide +kernel
theorem dX5_sizeOf_37 : decode cX5_sizeOf 37 = .ok (.if_icmp .ne 10, 3) := by decide +kernel
theorem dX5_sizeOf_40 : decode cX5_sizeOf 40 = .ok (.aload_n 0, 1) := by decide +kernel
theorem dX5_sizeOf_41 : decode cX5_sizeOf 41 = .ok (.getfield 70, 3) := by decide +kernel
theorem dX5_sizeOf_44 : decode cX5_sizeOf 44 = .ok (.goto 16, 3) := by decide +kernel
theorem dX5_sizeOf_47 : decode cX5_sizeOf 47 = .ok (.iload_n 1, 1) := by decide +kernel
theorem dX5_sizeOf_48 : decode cX5_sizeOf 48 = .ok (.iconst 4, 1) := by decide +kernel
theorem dX5_sizeOf_49 : decode cX5_sizeOf 49 = .ok (.if_icmp .ne 10, 3) := by decide +kernel
theorem dX5_sizeOf_52 : decode cX5_sizeOf 52 = .ok (.aload_n 0, 1) := by decide +kernel
theorem dX5_sizeOf_53 : decode cX5_sizeOf 53 = .ok (.getfield 73, 3) := by decide +kernel
theorem dX5_sizeOf_56 : decode cX5_sizeOf 56 = .ok (.goto 4, 3) := by decide +kernel
theorem dX5_sizeOf_59 : decode cX5_sizeOf 59 = .ok (.iconst (-1), 1) := by decide +kernel
theorem dX5_sizeOf_60 : decode cX5_sizeOf 60 = .ok (.ireturn, 1) := by decide +kernel
theorem dX5_byteOf_0 : decode cX5_byteOf 0 = .ok (.iload_n 1, 1) := by decide +kernel
theorem dX5_byteOf_1 : decode cX5_byteOf 1 = .ok (.ifCond .ne 12, 3) := by decide +kernel
theorem dX5_byteOf_4 : decode cX5_byteOf 4 = .ok (.aload_n 0, 1) := by decide +kernel
theorem dX5_byteOf_5 : decode cX5_byteOf 5 = .ok (.getfield 13, 3) := by decide +kernel
theorem dX5_byteOf_8 : decode cX5_byteOf 8 = .ok (.iload_n 2, 1) := by decide +kernel
theorem dX5_byteOf_9 : decode cX5_byteOf 9 = .ok (.iaload, 1) := by decide +kernel
theorem dX5_byteOf_10 : decode cX5_byteOf 10 = .ok (.goto 51, 3) := by decide +kernel
theorem dX5_byteOf_13 : decode cX5_byteOf 13 = .ok (.iload_n 1, 1) := by decide +kernel
theorem dX5_byteOf_14 : decode cX5_byteOf 14 = .ok (.iconst 1, 1) := by decide +kernel
theorem dX5_byteOf_15 : decode cX5_byteOf 15 = .ok (.if_icmp .ne 12, 3) := by decide +kernel
theorem dX5_byteOf_18 : decode cX5_byteOf 18 = .ok (.aload_n 0, 1) := by decide +kernel
theorem dX5_byteOf_19 : decode cX5_byteOf 19 = .ok (.getfield 16, 3) := by decide +kernel
theorem dX5_byteOf_22 : decode cX5_byteOf 22 = .ok (.iload_n 2, 1) := by decide +kernel
theorem dX5_byteOf_23 : decode cX5_byteOf 23 = .ok (.iaload, 1) := by decide +kernel
theorem dX5_byteOf_24 : decode cX5_byteOf 24 = .ok (.goto 37, 3) := by decide +kernel
theorem dX5_byteOf_27 : decode cX5_byteOf 27 = .ok (.iload_n 1, 1) := by decide +kernel
theorem dX5_byteOf_28 : decode cX5_byteOf 28 = .ok (.iconst 2, 1) := by decide +kernel
theorem dX5_byteOf_29 : decode cX5_byteOf 29 = .ok (.if_icmp .ne 12, 3) := by decide +kernel
theorem dX5_byteOf_32 : decode cX5_byteOf 32 = .ok (.aload_n 0, 1) := by decide +kernel
theorem dX5_byteOf_33 : decode cX5_byteOf 33 = .ok (.getfield 19, 3) := by decide +kernel
theorem dX5_byteOf_36 : decode cX5_byteOf 36 = .ok (.iload_n 2, 1) := by decide +kernel
theorem dX5_byteOf_37 : decode cX5_byteOf 37 = .ok (.iaload, 1) := by decide +kernel
theorem dX5_byteOf_38 : decode cX5_byteOf 38 = .ok (.goto 23, 3) := by decide +kernel
theorem dX5_byteOf_41 : decode cX5_byteOf 41 = .ok (.iload_n 1, 1) := by decide +kernel
theorem dX5_byteOf_42 : decode cX5_byteOf 42 = .ok (.iconst 3, 1) := by decide +kernel
theorem dX5_byteOf_43 : decode cX5_byteOf 43 = .ok (.if_icmp .ne 12, 3) := by decide +kernel
theorem dX5_byteOf_46 : decode cX5_byteOf 46 = .ok (.aload_n 0, 1) := by decide +kernel
theorem dX5_byteOf_47 : decode cX5_byteOf 47 = .ok (.getfield 22, 3) := by decide +kernel
theorem dX5_byteOf_50 : decode cX5_byteOf 50 = .ok (.iload_n 2, 1) := by decide +kernel
theorem dX5_byteOf_51 : decode cX5_byteOf 51 = .ok (.iaload, 1) := by decide +kernel
theorem dX5_byteOf_52 : decode cX5_byteOf 52 = .ok (.goto 9, 3) := by decide +kernel
theorem dX5_byteOf_55 : decode cX5_byteOf 55 = .ok (.aload_n 0, 1) := by decide +kernel
theorem dX5_byteOf_56 : decode cX5_byteOf 56 = .ok (.getfield 25, 3) := by decide +kernel
theorem dX5_byteOf_59 : decode cX5_byteOf 59 = .ok (.iload_n 2, 1) := by decide +kernel
theorem dX5_byteOf_60 : decode cX5_byteOf 60 = .ok (.iaload, 1) := by decide +kernel
theorem dX5_byteOf_61 : decode cX5_byteOf 61 = .ok (.ireturn, 1) := by decide +kernel
theorem dX5_byteAt_0 : decode cX5_byteAt 0 = .ok (.aload_n 0, 1) := by decide +kernel
theorem dX5_byteAt_1 : decode cX5_byteAt 1 = .ok (.iconst 0, 1) := by decide +kernel
theorem dX5_byteAt_2 : decode cX5_byteAt 2 = .ok (.putfield 52, 3) := by decide +kernel
theorem dX5_byteAt_5 : decode cX5_byteAt 5 = .ok (.iload_n 2, 1) := by decide +kernel
theorem dX5_byteAt_6 : decode cX5_byteAt 6 = .ok (.ifCond .lt 12, 3) := by decide +kernel
theorem dX5_byteAt_9 : decode cX5_byteAt 9 = .ok (.iload_n 2, 1) := by decide +kernel
theorem dX5_byteAt_10 : decode cX5_byteAt 10 = .ok (.aload_n 0, 1) := by decide +kernel
theorem dX5_byteAt_11 : decode cX5_byteAt 11 = .ok (.iload_n 1, 1) := by decide +kernel
theorem dX5_byteAt_12 : decode cX5_byteAt 12 = .ok (.invokevirtual 76, 3) := by decide +kernel
theorem dX5_byteAt_15 : decode cX5_byteAt 15 = .ok (.if_icmp .lt 7, 3) := by decide +kernel
theorem dX5_byteAt_18 : decode cX5_byteAt 18 = .ok (.iconst (-1), 1) := by decide +kernel
theorem dX5_byteAt_19 : decode cX5_byteAt 19 = .ok (.goto 9, 3) := by decide +kernel
theorem dX5_byteAt_22 : decode cX5_byteAt 22 = .ok (.aload_n 0, 1) := by decide +kernel
theorem dX5_byteAt_23 : decode cX5_byteAt 23 = .ok (.iload_n 1, 1) := by decide +kernel
theorem dX5_byteAt_24 : decode cX5_byteAt 24 = .ok (.iload_n 2, 1) := by decide +kernel
theorem dX5_byteAt_25 : decode cX5_byteAt 25 = .ok (.invokevirtual 80, 3) := by decide +kernel
theorem dX5_byteAt_28 : decode cX5_byteAt 28 = .ok (.ireturn, 1) := by decide +kernel
theorem dX5_size_0 : decode cX5_size 0 = .ok (.aload_n 0, 1) := by decide +kernel
theorem dX5_size_1 : decode cX5_size 1 = .ok (.iconst 0, 1) := by decide +kernel
theorem dX5_size_2 : decode cX5_size 2 = .ok (.putfield 52, 3) := by decide +kernel
theorem dX5_size_5 : decode cX5_size 5 = .ok (.aload_n 0, 1) := by decide +kernel
theorem dX5_size_6 : decode cX5_size 6 = .ok (.iload_n 1, 1) := by decide +kernel
theorem dX5_size_7 : decode cX5_size 7 = .ok (.invokevirtual 76, 3) := by decide +kernel
theorem dX5_size_10 : decode cX5_size 10 = .ok (.ireturn, 1) := by decide +kernel
theorem dX5_checkOf_0 : decode cX5_checkOf 0 = .ok (.iconst 0, 1) := by decide +kernel
theorem dX5_checkOf_1 : decode cX5_checkOf 1 = .ok (.istore_n 2, 1) := by decide +kernel
theorem dX5_checkOf_2 : decode cX5_checkOf 2 = .ok (.iconst 0, 1) := by decide +kernel
theorem dX5_checkOf_3 : decode cX5_checkOf 3 = .ok (.istore_n 3, 1) := by decide +kernel
theorem dX5_checkOf_4 : decode cX5_checkOf 4 = .ok (.iload_n 3, 1) := by decide +kernel
theorem dX5_checkOf_5 : decode cX5_checkOf 5 = .ok (.aload_n 0, 1) := by decide +kernel
theorem dX5_checkOf_6 : decode cX5_checkOf 6 = .ok (.iload_n 1, 1) := by decide +kernel
theorem dX5_checkOf_7 : decode cX5_checkOf 7 = .ok (.invokevirtual 76, 3) := by decide +kernel
theorem dX5_checkOf_10 : decode cX5_checkOf 10 = .ok (.if_icmp .ge 33, 3) := by decide +kernel
theorem dX5_checkOf_13 : decode cX5_checkOf 13 = .ok (.iload_n 2, 1) := by decide +kernel
theorem dX5_checkOf_14 : decode cX5_checkOf 14 = .ok (.aload_n 0, 1) := by decide +kernel
theorem dX5_checkOf_15 : decode cX5_checkOf 15 = .ok (.iload_n 1, 1) := by decide +kernel
theorem dX5_checkOf_16 : decode cX5_checkOf 16 = .ok (.iload_n 3, 1) := by decide +kernel
theorem dX5_checkOf_17 : decode cX5_checkOf 17 = .ok (.invokevirtual 80, 3) := by decide +kernel
theorem dX5_checkOf_20 : decode cX5_checkOf 20 = .ok (.ixor, 1) := by decide +kernel
theorem dX5_checkOf_21 : decode cX5_checkOf 21 = .ok (.istore 4, 2) := by decide +kernel
theorem dX5_checkOf_23 : decode cX5_checkOf 23 = .ok (.iload 4, 2) := by decide +kernel
theorem dX5_checkOf_25 : decode cX5_checkOf 25 = .ok (.iconst 5, 1) := by decide +kernel
theorem dX5_checkOf_26 : decode cX5_checkOf 26 = .ok (.ishl, 1) := by decide +kernel
theorem dX5_checkOf_27 : decode cX5_checkOf 27 = .ok (.iload 4, 2) := by decide +kernel
theorem dX5_checkOf_29 : decode cX5_checkOf 29 = .ok (.bipush 27, 2) := by decide +kernel
theorem dX5_checkOf_31 : decode cX5_checkOf 31 = .ok (.iushr, 1) := by decide +kernel
theorem dX5_checkOf_32 : decode cX5_checkOf 32 = .ok (.ior, 1) := by decide +kernel
theorem dX5_checkOf_33 : decode cX5_checkOf 33 = .ok (.ldc 84, 2) := by decide +kernel
theorem dX5_checkOf_35 : decode cX5_checkOf 35 = .ok (.imul, 1) := by decide +kernel
theorem dX5_checkOf_36 : decode cX5_checkOf 36 = .ok (.istore_n 2, 1) := by decide +kernel
theorem dX5_checkOf_37 : decode cX5_checkOf 37 = .ok (.iinc 3 1, 3) := by decide +kernel
theorem dX5_checkOf_40 : decode cX5_checkOf 40 = .ok (.goto (-36), 3) := by decide +kernel
theorem dX5_checkOf_43 : decode cX5_checkOf 43 = .ok (.iload_n 2, 1) := by decide +kernel
theorem dX5_checkOf_44 : decode cX5_checkOf 44 = .ok (.ireturn, 1) := by decide +kernel
theorem dX5_check_0 : decode cX5_check 0 = .ok (.aload_n 0, 1) := by decide +kernel
theorem dX5_check_1 : decode cX5_check 1 = .ok (.iconst 0, 1) := by decide +kernel
theorem dX5_check_2 : decode cX5_check 2 = .ok (.putfield 52, 3) := by decide +kernel
theorem dX5_check_5 : decode cX5_check 5 = .ok (.iload_n 1, 1) := by decide +kernel
theorem dX5_check_6 : decode cX5_check 6 = .ok (.ifCond .lt 8, 3) := by decide +kernel
theorem dX5_check_9 : decode cX5_check 9 = .ok (.iload_n 1, 1) := by decide +kernel
theorem dX5_check_10 : decode cX5_check 10 = .ok (.iconst 4, 1) := by decide +kernel
theorem dX5_check_11 : decode cX5_check 11 = .ok (.if_icmp .le 7, 3) := by decide +kernel
theorem dX5_check_14 : decode cX5_check 14 = .ok (.iconst 0, 1) := by decide +kernel
theorem dX5_check_15 : decode cX5_check 15 = .ok (.goto 8, 3) := by decide +kernel
theorem dX5_check_18 : decode cX5_check 18 = .ok (.aload_n 0, 1) := by decide +kernel
theorem dX5_check_19 : decode cX5_check 19 = .ok (.iload_n 1, 1) := by decide +kernel
theorem dX5_check_20 : decode cX5_check 20 = .ok (.invokevirtual 85, 3) := by decide +kernel
theorem dX5_check_23 : decode cX5_check 23 = .ok (.ireturn, 1) := by decide +kernel
theorem dX5_runOf_0 : decode cX5_runOf 0 = .ok (.iconst 0, 1) := by decide +kernel
theorem dX5_runOf_1 : decode cX5_runOf 1 = .ok (.istore_n 3, 1) := by decide +kernel
theorem dX5_runOf_2 : decode cX5_runOf 2 = .ok (.iload_n 1, 1) := by decide +kernel
theorem dX5_runOf_3 : decode cX5_runOf 3 = .ok (.iload_n 3, 1) := by decide +kernel
theorem dX5_runOf_4 : decode cX5_runOf 4 = .ok (.iadd, 1) := by decide +kernel
theorem dX5_runOf_5 : decode cX5_runOf 5 = .ok (.aload_n 0, 1) := by decide +kernel
theorem dX5_runOf_6 : decode cX5_runOf 6 = .ok (.getfield 64, 3) := by decide +kernel
theorem dX5_runOf_9 : decode cX5_runOf 9 = .ok (.if_icmp .ge 38, 3) := by decide +kernel
theorem dX5_runOf_12 : decode cX5_runOf 12 = .ok (.iload_n 2, 1) := by decide +kernel
theorem dX5_runOf_13 : decode cX5_runOf 13 = .ok (.iload_n 3, 1) := by decide +kernel
theorem dX5_runOf_14 : decode cX5_runOf 14 = .ok (.iadd, 1) := by decide +kernel
theorem dX5_runOf_15 : decode cX5_runOf 15 = .ok (.aload_n 0, 1) := by decide +kernel
theorem dX5_runOf_16 : decode cX5_runOf 16 = .ok (.getfield 61, 3) := by decide +kernel
theorem dX5_runOf_19 : decode cX5_runOf 19 = .ok (.if_icmp .ge 28, 3) := by decide +kernel
theorem dX5_runOf_22 : decode cX5_runOf 22 = .ok (.aload_n 0, 1) := by decide +kernel
theorem dX5_runOf_23 : decode cX5_runOf 23 = .ok (.getfield 16, 3) := by decide +kernel
theorem dX5_runOf_26 : decode cX5_runOf 26 = .ok (.iload_n 1, 1) := by decide +kernel
theorem dX5_runOf_27 : decode cX5_runOf 27 = .ok (.iload_n 3, 1) := by decide +kernel
theorem dX5_runOf_28 : decode cX5_runOf 28 = .ok (.iadd, 1) := by decide +kernel
theorem dX5_runOf_29 : decode cX5_runOf 29 = .ok (.iaload, 1) := by decide +kernel
theorem dX5_runOf_30 : decode cX5_runOf 30 = .ok (.aload_n 0, 1) := by decide +kernel
theorem dX5_runOf_31 : decode cX5_runOf 31 = .ok (.getfield 13, 3) := by decide +kernel
theorem dX5_runOf_34 : decode cX5_runOf 34 = .ok (.iload_n 2, 1) := by decide +kernel
theorem dX5_runOf_35 : decode cX5_runOf 35 = .ok (.iload_n 3, 1) := by decide +kernel
theorem dX5_runOf_36 : decode cX5_runOf 36 = .ok (.iadd, 1) := by decide +kernel
theorem dX5_runOf_37 : decode cX5_runOf 37 = .ok (.iaload, 1) := by decide +kernel
theorem dX5_runOf_38 : decode cX5_runOf 38 = .ok (.if_icmp .ne 9, 3) := by decide +kernel
theorem dX5_runOf_41 : decode cX5_runOf 41 = .ok (.iinc 3 1, 3) := by decide +kernel
theorem dX5_runOf_44 : decode cX5_runOf 44 = .ok (.goto (-42), 3) := by decide +kernel
theorem dX5_runOf_47 : decode cX5_runOf 47 = .ok (.iload_n 3, 1) := by decide +kernel
theorem dX5_runOf_48 : decode cX5_runOf 48 = .ok (.ireturn, 1) := by decide +kernel
theorem dX5_findSteps_0 : decode cX5_findSteps 0 = .ok (.aload_n 0, 1) := by decide +kernel
theorem dX5_findSteps_1 : decode cX5_findSteps 1 = .ok (.iconst 0, 1) := by decide +kernel
theorem dX5_findSteps_2 : decode cX5_findSteps 2 = .ok (.putfield 88, 3) := by decide +kernel
theorem dX5_findSteps_5 : decode cX5_findSteps 5 = .ok (.iconst 0, 1) := by decide +kernel
theorem dX5_findSteps_6 : decode cX5_findSteps 6 = .ok (.istore_n 1, 1) := by decide +kernel
theorem dX5_findSteps_7 : decode cX5_findSteps 7 = .ok (.iload_n 1, 1) := by decide +kernel
theorem dX5_findSteps_8 : decode cX5_findSteps 8 = .ok (.aload_n 0, 1) := by decide +kernel
theorem dX5_findSteps_9 : decode cX5_findSteps 9 = .ok (.getfield 64, 3) := by decide +kernel
theorem dX5_findSteps_12 : decode cX5_findSteps 12 = .ok (.if_icmp .ge 184, 3) := by decide +kernel
theorem dX5_findSteps_15 : decode cX5_findSteps 15 = .ok (.iconst (-1), 1) := by decide +kernel
theorem dX5_findSteps_16 : decode cX5_findSteps 16 = .ok (.istore_n 2, 1) := by decide +kernel
theorem dX5_findSteps_17 : decode cX5_findSteps 17 = .ok (.iconst 3, 1) := by decide +kernel
theorem dX5_findSteps_18 : decode cX5_findSteps 18 = .ok (.istore_n 3, 1) := by decide +kernel
theorem dX5_findSteps_19 : decode cX5_findSteps 19 = .ok (.iconst 0, 1) := by decide +kernel
theorem dX5_findSteps_20 : decode cX5_findSteps 20 = .ok (.istore 4, 2) := by decide +kernel
theorem dX5_findSteps_22 : decode cX5_findSteps 22 = .ok (.iload 4, 2) := by decide +kernel
theorem dX5_findSteps_24 : decode cX5_findSteps 24 = .ok (.aload_n 0, 1) := by decide +kernel
theorem dX5_findSteps_25 : decode cX5_findSteps 25 = .ok (.getfield 61, 3) := by decide +kernel
theorem dX5_findSteps_28 : decode cX5_findSteps 28 = .ok (.if_icmp .ge 33, 3) := by decide +kernel
theorem dX5_findSteps_31 : decode cX5_findSteps 31 = .ok (.aload_n 0, 1) := by decide +kernel
theorem dX5_findSteps_32 : decode cX5_findSteps 32 = .ok (.iload_n 1, 1) := by decide +kernel
theorem dX5_findSteps_33 : decode cX5_findSteps 33 = .ok (.iload 4, 2) := by decide +kernel
theorem dX5_findSteps_35 : decode cX5_findSteps 35 = .ok (.invokevirtual 91, 3) := by decide +kernel
theorem dX5_findSteps_38 : decode cX5_findSteps 38 = .ok (.istore 5, 2) := by decide +kernel
theorem dX5_findSteps_40 : decode cX5_findSteps 40 = .ok (.iload 5, 2) := by decide +kernel
theorem dX5_findSteps_42 : decode cX5_findSteps 42 = .ok (.iload_n 3, 1) := by decide +kernel
theorem dX5_findSteps_43 : decode cX5_findSteps 43 = .ok (.if_icmp .gt 6, 3) := by decide +kernel
theorem dX5_findSteps_46 : decode cX5_findSteps 46 = .ok (.goto 9, 3) := by decide +kernel
theorem dX5_findSteps_49 : decode cX5_findSteps 49 = .ok (.iload 5, 2) := by decide +kernel
theorem dX5_findSteps_51 : decode cX5_findSteps 51 = .ok (.istore_n 3, 1) := by decide +kernel
theorem dX5_findSteps_52 : decode cX5_findSteps 52 = .ok (.iload 4, 2) := by decide +kernel
theorem dX5_findSteps_54 : decode cX5_findSteps 54 = .ok (.istore_n 2, 1) := by decide +kernel
theorem dX5_findSteps_55 : decode cX5_findSteps 55 = .ok (.iinc 4 1, 3) := by decide +kernel
theorem dX5_findSteps_58 : decode cX5_findSteps 58 = .ok (.goto (-36), 3) := by decide +kernel
theorem dX5_findSteps_61 : decode cX5_findSteps 61 = .ok (.iload_n 2, 1) := by decide +kernel
theorem dX5_findSteps_62 : decode cX5_findSteps 62 = .ok (.iconst (-1), 1) := by decide +kernel
theorem dX5_findSteps_63 : decode cX5_findSteps 63 = .ok (.if_icmp .ne 45, 3) := by decide +kernel
theorem dX5_findSteps_66 : decode cX5_findSteps 66 = .ok (.aload_n 0, 1) := by decide +kernel
theorem dX5_findSteps_67 : decode cX5_findSteps 67 = .ok (.getfield 88, 3) := by decide +kernel
theorem dX5_findSteps_70 : decode cX5_findSteps 70 = .ok (.ifCond .le 38, 3) := by decide +kernel
theorem dX5_findSteps_73 : decode cX5_findSteps 73 = .ok (.aload_n 0, 1) := by decide +kernel
theorem dX5_findSteps_74 : decode cX5_findSteps 74 = .ok (.getfield 37, 3) := by decide +kernel
theorem dX5_findSteps_77 : decode cX5_findSteps 77 = .ok (.aload_n 0, 1) := by decide +kernel
theorem dX5_findSteps_78 : decode cX5_findSteps 78 = .ok (.getfield 88, 3) := by decide +kernel
theorem dX5_findSteps_81 : decode cX5_findSteps 81 = .ok (.iconst 1, 1) := by decide +kernel
theorem dX5_findSteps_82 : decode cX5_findSteps 82 = .ok (.isub, 1) := by decide +kernel
theorem dX5_findSteps_83 : decode cX5_findSteps 83 = .ok (.iaload, 1) := by decide +kernel
theorem dX5_findSteps_84 : decode cX5_findSteps 84 = .ok (.iconst (-1), 1) := by decide +kernel
theorem dX5_findSteps_85 : decode cX5_findSteps 85 = .ok (.if_icmp .ne 23, 3) := by decide +kernel
theorem dX5_findSteps_88 : decode cX5_findSteps 88 = .ok (.aload_n 0, 1) := by decide +kernel
theorem dX5_findSteps_89 : decode cX5_findSteps 89 = .ok (.getfield 34, 3) := by decide +kernel
theorem dX5_findSteps_92 : decode cX5_findSteps 92 = .ok (.aload_n 0, 1) := by decide +kernel
theorem dX5_findSteps_93 : decode cX5_findSteps 93 = .ok (.getfield 88, 3) := by decide +kernel
theorem dX5_findSteps_96 : decode cX5_findSteps 96 = .ok (.iconst 1, 1) := by decide +kernel
theorem dX5_findSteps_97 : decode cX5_findSteps 97 = .ok (.isub, 1) := by decide +kernel
theorem dX5_findSteps_98 : decode cX5_findSteps 98 = .ok (.iaload, 1) := by decide +kernel
theorem dX5_findSteps_99 : decode cX5_findSteps 99 = .ok (.bipush 40, 2) := by decide +kernel
theorem dX5_findSteps_101 : decode cX5_findSteps 101 = .ok (.if_icmp .ge 7, 3) := by decide +kernel
theorem dX5_findSteps_104 : decode cX5_findSteps 104 = .ok (.iconst 1, 1) := by decide +kernel
theorem dX5_findSteps_105 : decode cX5_findSteps 105 = .ok (.goto 4, 3) := by decide +kernel
theorem dX5_findSteps_108 : decode cX5_findSteps 108 = .ok (.iconst 0, 1) := by decide +kernel
theorem dX5_findSteps_109 : decode cX5_findSteps 109 = .ok (.istore 4, 2) := by decide +kernel
theorem dX5_findSteps_111 : decode cX5_findSteps 111 = .ok (.iload 4, 2) := by decide +kernel
theorem dX5_findSteps_113 : decode cX5_findSteps 113 = .ok (.ifCond .ne 43, 3) := by decide +kernel
theorem dX5_findSteps_116 : decode cX5_findSteps 116 = .ok (.aload_n 0, 1) := by decide +kernel
theorem dX5_findSteps_117 : decode cX5_findSteps 117 = .ok (.getfield 31, 3) := by decide +kernel
theorem dX5_findSteps_120 : decode cX5_findSteps 120 = .ok (.aload_n 0, 1) := by decide +kernel
theorem dX5_findSteps_121 : decode cX5_findSteps 121 = .ok (.getfield 88, 3) := by decide +kernel
theorem dX5_findSteps_124 : decode cX5_findSteps 124 = .ok (.iload_n 1, 1) := by decide +kernel
theorem dX5_findSteps_125 : decode cX5_findSteps 125 = .ok (.iastore, 1) := by decide +kernel
theorem dX5_findSteps_126 : decode cX5_findSteps 126 = .ok (.aload_n 0, 1) := by decide +kernel
theorem dX5_findSteps_127 : decode cX5_findSteps 127 = .ok (.getfield 34, 3) := by decide +kernel
theorem dX5_findSteps_130 : decode cX5_findSteps 130 = .ok (.aload_n 0, 1) := by decide +kernel
theorem dX5_findSteps_131 : decode cX5_findSteps 131 = .ok (.getfield 88, 3) := by decide +kernel
theorem dX5_findSteps_134 : decode cX5_findSteps 134 = .ok (.iconst 0, 1) := by decide +kernel
theorem dX5_findSteps_135 : decode cX5_findSteps 135 = .ok (.iastore, 1) := by decide +kernel
theorem dX5_findSteps_136 : decode cX5_findSteps 136 = .ok (.aload_n 0, 1) := by decide +kernel
theorem dX5_findSteps_137 : decode cX5_findSteps 137 = .ok (.getfield 37, 3) := by decide +kernel
theorem dX5_findSteps_140 : decode cX5_findSteps 140 = .ok (.aload_n 0, 1) := by decide +kernel
theorem dX5_findSteps_141 : decode cX5_findSteps 141 = .ok (.getfield 88, 3) := by decide +kernel
theorem dX5_findSteps_144 : decode cX5_findSteps 144 = .ok (.iload_n 2, 1) := by decide +kernel
theorem dX5_findSteps_145 : decode cX5_findSteps 145 = .ok (.iastore, 1) := by decide +kernel
theorem dX5_findSteps_146 : decode cX5_findSteps 146 = .ok (.aload_n 0, 1) := by decide +kernel
theorem dX5_findSteps_147 : decode cX5_findSteps 147 = .ok (.dup, 1) := by decide +kernel
theorem dX5_findSteps_148 : decode cX5_findSteps 148 = .ok (.getfield 88, 3) := by decide +kernel
theorem dX5_findSteps_151 : decode cX5_findSteps 151 = .ok (.iconst 1, 1) := by decide +kernel
theorem dX5_findSteps_152 : decode cX5_findSteps 152 = .ok (.iadd, 1) := by decide +kernel
theorem dX5_findSteps_153 : decode cX5_findSteps 153 = .ok (.putfield 88, 3) := by decide +kernel
theorem dX5_findSteps_156 : decode cX5_findSteps 156 = .ok (.aload_n 0, 1) := by decide +kernel
theorem dX5_findSteps_157 : decode cX5_findSteps 157 = .ok (.getfield 34, 3) := by decide +kernel
theorem dX5_findSteps_160 : decode cX5_findSteps 160 = .ok (.aload_n 0, 1) := by decide +kernel
theorem dX5_findSteps_161 : decode cX5_findSteps 161 = .ok (.getfield 88, 3) := by decide +kernel
theorem dX5_findSteps_164 : decode cX5_findSteps 164 = .ok (.iconst 1, 1) := by decide +kernel
theorem dX5_findSteps_165 : decode cX5_findSteps 165 = .ok (.isub, 1) := by decide +kernel
theorem dX5_findSteps_166 : decode cX5_findSteps 166 = .ok (.dup2, 1) := by decide +kernel
theorem dX5_findSteps_167 : decode cX5_findSteps 167 = .ok (.iaload, 1) := by decide +kernel
theorem dX5_findSteps_168 : decode cX5_findSteps 168 = .ok (.iload_n 2, 1) := by decide +kernel
theorem dX5_findSteps_169 : decode cX5_findSteps 169 = .ok (.iconst (-1), 1) := by decide +kernel
theorem dX5_findSteps_170 : decode cX5_findSteps 170 = .ok (.if_icmp .ne 7, 3) := by decide +kernel
theorem dX5_findSteps_173 : decode cX5_findSteps 173 = .ok (.iconst 1, 1) := by decide +kernel
theorem dX5_findSteps_174 : decode cX5_findSteps 174 = .ok (.goto 4, 3) := by decide +kernel
theorem dX5_findSteps_177 : decode cX5_findSteps 177 = .ok (.iload_n 3, 1) := by decide +kernel
theorem dX5_findSteps_178 : decode cX5_findSteps 178 = .ok (.iadd, 1) := by decide +kernel
theorem dX5_findSteps_179 : decode cX5_findSteps 179 = .ok (.iastore, 1) := by decide +kernel
theorem dX5_findSteps_180 : decode cX5_findSteps 180 = .ok (.iload_n 1, 1) := by decide +kernel
theorem dX5_findSteps_181 : decode cX5_findSteps 181 = .ok (.iload_n 2, 1) := by decide +kernel
theorem dX5_findSteps_182 : decode cX5_findSteps 182 = .ok (.iconst (-1), 1) := by decide +kernel
theorem dX5_findSteps_183 : decode cX5_findSteps 183 = .ok (.if_icmp .ne 7, 3) := by decide +kernel
theorem dX5_findSteps_186 : decode cX5_findSteps 186 = .ok (.iconst 1, 1) := by decide +kernel
theorem dX5_findSteps_187 : decode cX5_findSteps 187 = .ok (.goto 4, 3) := by decide +kernel
theorem dX5_findSteps_190 : decode cX5_findSteps 190 = .ok (.iload_n 3, 1) := by decide +kernel
theorem dX5_findSteps_191 : decode cX5_findSteps 191 = .ok (.iadd, 1) := by decide +kernel
theorem dX5_findSteps_192 : decode cX5_findSteps 192 = .ok (.istore_n 1, 1) := by decide +kernel
theorem dX5_findSteps_193 : decode cX5_findSteps 193 = .ok (.goto (-186), 3) := by decide +kernel
theorem dX5_findSteps_196 : decode cX5_findSteps 196 = .ok (.return_, 1) := by decide +kernel
theorem dX5_put_0 : decode cX5_put 0 = .ok (.aload_n 0, 1) := by decide +kernel
theorem dX5_put_1 : decode cX5_put 1 = .ok (.getfield 19, 3) := by decide +kernel
theorem dX5_put_4 : decode cX5_put 4 = .ok (.aload_n 0, 1) := by decide +kernel
theorem dX5_put_5 : decode cX5_put 5 = .ok (.getfield 67, 3) := by decide +kernel
theorem dX5_put_8 : decode cX5_put 8 = .ok (.iload_n 1, 1) := by decide +kernel
theorem dX5_put_9 : decode cX5_put 9 = .ok (.sipush 255, 3) := by decide +kernel
theorem dX5_put_12 : decode cX5_put 12 = .ok (.iand, 1) := by decide +kernel
theorem dX5_put_13 : decode cX5_put 13 = .ok (.iastore, 1) := by decide +kernel
theorem dX5_put_14 : decode cX5_put 14 = .ok (.aload_n 0, 1) := by decide +kernel
theorem dX5_put_15 : decode cX5_put 15 = .ok (.dup, 1) := by decide +kernel
theorem dX5_put_16 : decode cX5_put 16 = .ok (.getfield 67, 3) := by decide +kernel
theorem dX5_put_19 : decode cX5_put 19 = .ok (.iconst 1, 1) := by decide +kernel
theorem dX5_put_20 : decode cX5_put 20 = .ok (.iadd, 1) := by decide +kernel
theorem dX5_put_21 : decode cX5_put 21 = .ok (.putfield 67, 3) := by decide +kernel
theorem dX5_put_24 : decode cX5_put 24 = .ok (.return_, 1) := by decide +kernel
theorem dX5_putNumber_0 : decode cX5_putNumber 0 = .ok (.iload_n 1, 1) := by decide +kernel
theorem dX5_putNumber_1 : decode cX5_putNumber 1 = .ok (.istore_n 2, 1) := by decide +kernel
theorem dX5_putNumber_2 : decode cX5_putNumber 2 = .ok (.iload_n 2, 1) := by decide +kernel
theorem dX5_putNumber_3 : decode cX5_putNumber 3 = .ok (.bipush 127, 2) := by decide +kernel
theorem dX5_putNumber_5 : decode cX5_putNumber 5 = .ok (.if_icmp .le 25, 3) := by decide +kernel
theorem dX5_putNumber_8 : decode cX5_putNumber 8 = .ok (.aload_n 0, 1) := by decide +kernel
theorem dX5_putNumber_9 : decode cX5_putNumber 9 = .ok (.iload_n 2, 1) := by decide +kernel
theorem dX5_putNumber_10 : decode cX5_putNumber 10 = .ok (.sipush 128, 3) := by decide +kernel
theorem dX5_putNumber_13 : decode cX5_putNumber 13 = .ok (.irem, 1) := by decide +kernel
theorem dX5_putNumber_14 : decode cX5_putNumber 14 = .ok (.sipush 128, 3) := by decide +kernel
theorem dX5_putNumber_17 : decode cX5_putNumber 17 = .ok (.iadd, 1) := by decide +kernel
theorem dX5_putNumber_18 : decode cX5_putNumber 18 = .ok (.invokevirtual 94, 3) := by decide +kernel
theorem dX5_putNumber_21 : decode cX5_putNumber 21 = .ok (.iload_n 2, 1) := by decide +kernel
theorem dX5_putNumber_22 : decode cX5_putNumber 22 = .ok (.sipush 128, 3) := by decide +kernel
theorem dX5_putNumber_25 : decode cX5_putNumber 25 = .ok (.idiv, 1) := by decide +kernel
theorem dX5_putNumber_26 : decode cX5_putNumber 26 = .ok (.istore_n 2, 1) := by decide +kernel
theorem dX5_putNumber_27 : decode cX5_putNumber 27 = .ok (.goto (-25), 3) := by decide +kernel
theorem dX5_putNumber_30 : decode cX5_putNumber 30 = .ok (.aload_n 0, 1) := by decide +kernel
theorem dX5_putNumber_31 : decode cX5_putNumber 31 = .ok (.iload_n 2, 1) := by decide +kernel
theorem dX5_putNumber_32 : decode cX5_putNumber 32 = .ok (.invokevirtual 94, 3) := by decide +kernel
theorem dX5_putNumber_35 : decode cX5_putNumber 35 = .ok (.return_, 1) := by decide +kernel
theorem dX5_putCheck_0 : decode cX5_putCheck 0 = .ok (.bipush 24, 2) := by decide +kernel
theorem dX5_putCheck_2 : decode cX5_putCheck 2 = .ok (.istore_n 2, 1) := by decide +kernel
theorem dX5_putCheck_3 : decode cX5_putCheck 3 = .ok (.iload_n 2, 1) := by decide +kernel
theorem dX5_putCheck_4 : decode cX5_putCheck 4 = .ok (.ifCond .lt 16, 3) := by decide +kernel
theorem dX5_putCheck_7 : decode cX5_putCheck 7 = .ok (.aload_n 0, 1) := by decide +kernel
theorem dX5_putCheck_8 : decode cX5_putCheck 8 = .ok (.iload_n 1, 1) := by decide +kernel
theorem dX5_putCheck_9 : decode cX5_putCheck 9 = .ok (.iload_n 2, 1) := by decide +kernel
theorem dX5_putCheck_10 : decode cX5_putCheck 10 = .ok (.ishr, 1) := by decide +kernel
theorem dX5_putCheck_11 : decode cX5_putCheck 11 = .ok (.invokevirtual 94, 3) := by decide +kernel
theorem dX5_putCheck_14 : decode cX5_putCheck 14 = .ok (.iinc 2 (-8), 3) := by decide +kernel
theorem dX5_putCheck_17 : decode cX5_putCheck 17 = .ok (.goto (-14), 3) := by decide +kernel
theorem dX5_putCheck_20 : decode cX5_putCheck 20 = .ok (.return_, 1) := by decide +kernel
theorem dX5_make_0 : decode cX5_make 0 = .ok (.aload_n 0, 1) := by decide +kernel
theorem dX5_make_1 : decode cX5_make 1 = .ok (.iconst 0, 1) := by decide +kernel
theorem dX5_make_2 : decode cX5_make 2 = .ok (.putfield 52, 3) := by decide +kernel
theorem dX5_make_5 : decode cX5_make 5 = .ok (.aload_n 0, 1) := by decide +kernel
theorem dX5_make_6 : decode cX5_make 6 = .ok (.invokevirtual 98, 3) := by decide +kernel
theorem dX5_make_9 : decode cX5_make 9 = .ok (.aload_n 0, 1) := by decide +kernel
theorem dX5_make_10 : decode cX5_make 10 = .ok (.aload_n 0, 1) := by decide +kernel
theorem dX5_make_11 : decode cX5_make 11 = .ok (.getfield 61, 3) := by decide +kernel
theorem dX5_make_14 : decode cX5_make 14 = .ok (.putfield 101, 3) := by decide +kernel
theorem dX5_make_17 : decode cX5_make 17 = .ok (.iconst 0, 1) := by decide +kernel
theorem dX5_make_18 : decode cX5_make 18 = .ok (.istore_n 1, 1) := by decide +kernel
theorem dX5_make_19 : decode cX5_make 19 = .ok (.iload_n 1, 1) := by decide +kernel
theorem dX5_make_20 : decode cX5_make 20 = .ok (.aload_n 0, 1) := by decide +kernel
theorem dX5_make_21 : decode cX5_make 21 = .ok (.getfield 61, 3) := by decide +kernel
theorem dX5_make_24 : decode cX5_make 24 = .ok (.if_icmp .ge 21, 3) := by decide +kernel
theorem dX5_make_27 : decode cX5_make 27 = .ok (.aload_n 0, 1) := by decide +kernel
theorem dX5_make_28 : decode cX5_make 28 = .ok (.getfield 46, 3) := by decide +kernel
theorem dX5_make_31 : decode cX5_make 31 = .ok (.iload_n 1, 1) := by decide +kernel
theorem dX5_make_32 : decode cX5_make 32 = .ok (.aload_n 0, 1) := by decide +kernel
theorem dX5_make_33 : decode cX5_make 33 = .ok (.getfield 13, 3) := by decide +kernel
theorem dX5_make_36 : decode cX5_make 36 = .ok (.iload_n 1, 1) := by decide +kernel
theorem dX5_make_37 : decode cX5_make 37 = .ok (.iaload, 1) := by decide +kernel
theorem dX5_make_38 : decode cX5_make 38 = .ok (.iastore, 1) := by decide +kernel
theorem dX5_make_39 : decode cX5_make 39 = .ok (.iinc 1 1, 3) := by decide +kernel
theorem dX5_make_42 : decode cX5_make 42 = .ok (.goto (-23), 3) := by decide +kernel
theorem dX5_make_45 : decode cX5_make 45 = .ok (.aload_n 0, 1) := by decide +kernel
theorem dX5_make_46 : decode cX5_make 46 = .ok (.aload_n 0, 1) := by decide +kernel
theorem dX5_make_47 : decode cX5_make 47 = .ok (.getfield 64, 3) := by decide +kernel
theorem dX5_make_50 : decode cX5_make 50 = .ok (.putfield 104, 3) := by decide +kernel
theorem dX5_make_53 : decode cX5_make 53 = .ok (.iconst 0, 1) := by decide +kernel
theorem dX5_make_54 : decode cX5_make 54 = .ok (.istore_n 1, 1) := by decide +kernel
theorem dX5_make_55 : decode cX5_make 55 = .ok (.iload_n 1, 1) := by decide +kernel
theorem dX5_make_56 : decode cX5_make 56 = .ok (.aload_n 0, 1) := by decide +kernel
theorem dX5_make_57 : decode cX5_make 57 = .ok (.getfield 64, 3) := by decide +kernel
theorem dX5_make_60 : decode cX5_make 60 = .ok (.if_icmp .ge 21, 3) := by decide +kernel
theorem dX5_make_63 : decode cX5_make 63 = .ok (.aload_n 0, 1) := by decide +kernel
theorem dX5_make_64 : decode cX5_make 64 = .ok (.getfield 49, 3) := by decide +kernel
theorem dX5_make_67 : decode cX5_make 67 = .ok (.iload_n 1, 1) := by decide +kernel
theorem dX5_make_68 : decode cX5_make 68 = .ok (.aload_n 0, 1) := by decide +kernel
theorem dX5_make_69 : decode cX5_make 69 = .ok (.getfield 16, 3) := by decide +kernel
theorem dX5_make_72 : decode cX5_make 72 = .ok (.iload_n 1, 1) := by decide +kernel
theorem dX5_make_73 : decode cX5_make 73 = .ok (.iaload, 1) := by decide +kernel
theorem dX5_make_74 : decode cX5_make 74 = .ok (.iastore, 1) := by decide +kernel
theorem dX5_make_75 : decode cX5_make 75 = .ok (.iinc 1 1, 3) := by decide +kernel
theorem dX5_make_78 : decode cX5_make 78 = .ok (.goto (-23), 3) := by decide +kernel
theorem dX5_make_81 : decode cX5_make 81 = .ok (.iconst 0, 1) := by decide +kernel
theorem dX5_make_82 : decode cX5_make 82 = .ok (.istore_n 1, 1) := by decide +kernel
theorem dX5_make_83 : decode cX5_make 83 = .ok (.iload_n 1, 1) := by decide +kernel
theorem dX5_make_84 : decode cX5_make 84 = .ok (.aload_n 0, 1) := by decide +kernel
theorem dX5_make_85 : decode cX5_make 85 = .ok (.getfield 88, 3) := by decide +kernel
theorem dX5_make_88 : decode cX5_make 88 = .ok (.if_icmp .ge 23, 3) := by decide +kernel
theorem dX5_make_91 : decode cX5_make 91 = .ok (.aload_n 0, 1) := by decide +kernel
theorem dX5_make_92 : decode cX5_make 92 = .ok (.getfield 40, 3) := by decide +kernel
theorem dX5_make_95 : decode cX5_make 95 = .ok (.iload_n 1, 1) := by decide +kernel
theorem dX5_make_96 : decode cX5_make 96 = .ok (.iconst 0, 1) := by decide +kernel
theorem dX5_make_97 : decode cX5_make 97 = .ok (.iastore, 1) := by decide +kernel
theorem dX5_make_98 : decode cX5_make 98 = .ok (.aload_n 0, 1) := by decide +kernel
theorem dX5_make_99 : decode cX5_make 99 = .ok (.getfield 43, 3) := by decide +kernel
theorem dX5_make_102 : decode cX5_make 102 = .ok (.iload_n 1, 1) := by decide +kernel
theorem dX5_make_103 : decode cX5_make 103 = .ok (.iconst (-1), 1) := by decide +kernel
theorem dX5_make_104 : decode cX5_make 104 = .ok (.iastore, 1) := by decide +kernel
theorem dX5_make_105 : decode cX5_make 105 = .ok (.iinc 1 1, 3) := by decide +kernel
theorem dX5_make_108 : decode cX5_make 108 = .ok (.goto (-25), 3) := by decide +kernel
theorem dX5_make_111 : decode cX5_make 111 = .ok (.aload_n 0, 1) := by decide +kernel
theorem dX5_make_112 : decode cX5_make 112 = .ok (.iconst 0, 1) := by decide +kernel
theorem dX5_make_113 : decode cX5_make 113 = .ok (.putfield 67, 3) := by decide +kernel
theorem dX5_make_116 : decode cX5_make 116 = .ok (.aload_n 0, 1) := by decide +kernel
theorem dX5_make_117 : decode cX5_make 117 = .ok (.aload_n 0, 1) := by decide +kernel
theorem dX5_make_118 : decode cX5_make 118 = .ok (.getfield 61, 3) := by decide +kernel
theorem dX5_make_121 : decode cX5_make 121 = .ok (.invokevirtual 107, 3) := by decide +kernel
theorem dX5_make_124 : decode cX5_make 124 = .ok (.aload_n 0, 1) := by decide +kernel
theorem dX5_make_125 : decode cX5_make 125 = .ok (.aload_n 0, 1) := by decide +kernel
theorem dX5_make_126 : decode cX5_make 126 = .ok (.getfield 64, 3) := by decide +kernel
theorem dX5_make_129 : decode cX5_make 129 = .ok (.invokevirtual 107, 3) := by decide +kernel
theorem dX5_make_132 : decode cX5_make 132 = .ok (.aload_n 0, 1) := by decide +kernel
theorem dX5_make_133 : decode cX5_make 133 = .ok (.aload_n 0, 1) := by decide +kernel
theorem dX5_make_134 : decode cX5_make 134 = .ok (.iconst 0, 1) := by decide +kernel
theorem dX5_make_135 : decode cX5_make 135 = .ok (.invokevirtual 85, 3) := by decide +kernel
theorem dX5_make_138 : decode cX5_make 138 = .ok (.invokevirtual 110, 3) := by decide +kernel
theorem dX5_make_141 : decode cX5_make 141 = .ok (.aload_n 0, 1) := by decide +kernel
theorem dX5_make_142 : decode cX5_make 142 = .ok (.aload_n 0, 1) := by decide +kernel
theorem dX5_make_143 : decode cX5_make 143 = .ok (.iconst 1, 1) := by decide +kernel
theorem dX5_make_144 : decode cX5_make 144 = .ok (.invokevirtual 85, 3) := by decide +kernel
theorem dX5_make_147 : decode cX5_make 147 = .ok (.invokevirtual 110, 3) := by decide +kernel
theorem dX5_make_150 : decode cX5_make 150 = .ok (.iconst 0, 1) := by decide +kernel
theorem dX5_make_151 : decode cX5_make 151 = .ok (.istore_n 1, 1) := by decide +kernel
theorem dX5_make_152 : decode cX5_make 152 = .ok (.iconst 0, 1) := by decide +kernel
theorem dX5_make_153 : decode cX5_make 153 = .ok (.istore_n 2, 1) := by decide +kernel
theorem dX5_make_154 : decode cX5_make 154 = .ok (.iload_n 2, 1) := by decide +kernel
theorem dX5_make_155 : decode cX5_make 155 = .ok (.aload_n 0, 1) := by decide +kernel
theorem dX5_make_156 : decode cX5_make 156 = .ok (.getfield 88, 3) := by decide +kernel
theorem dX5_make_159 : decode cX5_make 159 = .ok (.if_icmp .ge 143, 3) := by decide +kernel
theorem dX5_make_162 : decode cX5_make 162 = .ok (.aload_n 0, 1) := by decide +kernel
theorem dX5_make_163 : decode cX5_make 163 = .ok (.getfield 37, 3) := by decide +kernel
theorem dX5_make_166 : decode cX5_make 166 = .ok (.iload_n 2, 1) := by decide +kernel
theorem dX5_make_167 : decode cX5_make 167 = .ok (.iaload, 1) := by decide +kernel
theorem dX5_make_168 : decode cX5_make 168 = .ok (.iconst (-1), 1) := by decide +kernel
theorem dX5_make_169 : decode cX5_make 169 = .ok (.if_icmp .eq 7, 3) := by decide +kernel
theorem dX5_make_172 : decode cX5_make 172 = .ok (.iconst 1, 1) := by decide +kernel
theorem dX5_make_173 : decode cX5_make 173 = .ok (.goto 4, 3) := by decide +kernel
theorem dX5_make_176 : decode cX5_make 176 = .ok (.iconst 0, 1) := by decide +kernel
theorem dX5_make_177 : decode cX5_make 177 = .ok (.istore_n 3, 1) := by decide +kernel
theorem dX5_make_178 : decode cX5_make 178 = .ok (.aload_n 0, 1) := by decide +kernel
theorem dX5_make_179 : decode cX5_make 179 = .ok (.iconst 2, 1) := by decide +kernel
theorem dX5_make_180 : decode cX5_make 180 = .ok (.aload_n 0, 1) := by decide +kernel
theorem dX5_make_181 : decode cX5_make 181 = .ok (.getfield 34, 3) := by decide +kernel
theorem dX5_make_184 : decode cX5_make 184 = .ok (.iload_n 2, 1) := by decide +kernel
theorem dX5_make_185 : decode cX5_make 185 = .ok (.iaload, 1) := by decide +kernel
theorem dX5_make_186 : decode cX5_make 186 = .ok (.imul, 1) := by decide +kernel
theorem dX5_make_187 : decode cX5_make 187 = .ok (.iload_n 3, 1) := by decide +kernel
theorem dX5_make_188 : decode cX5_make 188 = .ok (.ifCond .eq 7, 3) := by decide +kernel
theorem dX5_make_191 : decode cX5_make 191 = .ok (.iconst 1, 1) := by decide +kernel
theorem dX5_make_192 : decode cX5_make 192 = .ok (.goto 4, 3) := by decide +kernel
theorem dX5_make_195 : decode cX5_make 195 = .ok (.iconst 0, 1) := by decide +kernel
theorem dX5_make_196 : decode cX5_make 196 = .ok (.iadd, 1) := by decide +kernel
theorem dX5_make_197 : decode cX5_make 197 = .ok (.invokevirtual 107, 3) := by decide +kernel
theorem dX5_make_200 : decode cX5_make 200 = .ok (.iconst 0, 1) := by decide +kernel
theorem dX5_make_201 : decode cX5_make 201 = .ok (.istore 4, 2) := by decide +kernel
theorem dX5_make_203 : decode cX5_make 203 = .ok (.iload 4, 2) := by decide +kernel
theorem dX5_make_205 : decode cX5_make 205 = .ok (.aload_n 0, 1) := by decide +kernel
theorem dX5_make_206 : decode cX5_make 206 = .ok (.getfield 34, 3) := by decide +kernel
theorem dX5_make_209 : decode cX5_make 209 = .ok (.iload_n 2, 1) := by decide +kernel
theorem dX5_make_210 : decode cX5_make 210 = .ok (.iaload, 1) := by decide +kernel
theorem dX5_make_211 : decode cX5_make 211 = .ok (.if_icmp .ge 31, 3) := by decide +kernel
theorem dX5_make_214 : decode cX5_make 214 = .ok (.iload_n 3, 1) := by decide +kernel
theorem dX5_make_215 : decode cX5_make 215 = .ok (.ifCond .ne 27, 3) := by decide +kernel
theorem dX5_make_218 : decode cX5_make 218 = .ok (.aload_n 0, 1) := by decide +kernel
theorem dX5_make_219 : decode cX5_make 219 = .ok (.aload_n 0, 1) := by decide +kernel
theorem dX5_make_220 : decode cX5_make 220 = .ok (.getfield 16, 3) := by decide +kernel
theorem dX5_make_223 : decode cX5_make 223 = .ok (.aload_n 0, 1) := by decide +kernel
theorem dX5_make_224 : decode cX5_make 224 = .ok (.getfield 31, 3) := by decide +kernel
theorem dX5_make_227 : decode cX5_make 227 = .ok (.iload_n 2, 1) := by decide +kernel
theorem dX5_make_228 : decode cX5_make 228 = .ok (.iaload, 1) := by decide +kernel
theorem dX5_make_229 : decode cX5_make 229 = .ok (.iload 4, 2) := by decide +kernel
theorem dX5_make_231 : decode cX5_make 231 = .ok (.iadd, 1) := by decide +kernel
theorem dX5_make_232 : decode cX5_make 232 = .ok (.iaload, 1) := by decide +kernel
theorem dX5_make_233 : decode cX5_make 233 = .ok (.invokevirtual 94, 3) := by decide +kernel
theorem dX5_make_236 : decode cX5_make 236 = .ok (.iinc 4 1, 3) := by decide +kernel
theorem dX5_make_239 : decode cX5_make 239 = .ok (.goto (-36), 3) := by decide +kernel
theorem dX5_make_242 : decode cX5_make 242 = .ok (.iload_n 3, 1) := by decide +kernel
theorem dX5_make_243 : decode cX5_make 243 = .ok (.ifCond .ne 6, 3) := by decide +kernel
theorem dX5_make_246 : decode cX5_make 246 = .ok (.goto 50, 3) := by decide +kernel
theorem dX5_make_249 : decode cX5_make 249 = .ok (.aload_n 0, 1) := by decide +kernel
theorem dX5_make_250 : decode cX5_make 250 = .ok (.getfield 37, 3) := by decide +kernel
theorem dX5_make_253 : decode cX5_make 253 = .ok (.iload_n 2, 1) := by decide +kernel
theorem dX5_make_254 : decode cX5_make 254 = .ok (.iaload, 1) := by decide +kernel
theorem dX5_make_255 : decode cX5_make 255 = .ok (.iload_n 1, 1) := by decide +kernel
theorem dX5_make_256 : decode cX5_make 256 = .ok (.isub, 1) := by decide +kernel
theorem dX5_make_257 : decode cX5_make 257 = .ok (.istore 4, 2) := by decide +kernel
theorem dX5_make_259 : decode cX5_make 259 = .ok (.aload_n 0, 1) := by decide +kernel
theorem dX5_make_260 : decode cX5_make 260 = .ok (.iload 4, 2) := by decide +kernel
theorem dX5_make_262 : decode cX5_make 262 = .ok (.ifCond .ge 13, 3) := by decide +kernel
theorem dX5_make_265 : decode cX5_make 265 = .ok (.bipush (-2), 2) := by decide +kernel
theorem dX5_make_267 : decode cX5_make 267 = .ok (.iload 4, 2) := by decide +kernel
theorem dX5_make_269 : decode cX5_make 269 = .ok (.imul, 1) := by decide +kernel
theorem dX5_make_270 : decode cX5_make 270 = .ok (.iconst 1, 1) := by decide +kernel
theorem dX5_make_271 : decode cX5_make 271 = .ok (.isub, 1) := by decide +kernel
theorem dX5_make_272 : decode cX5_make 272 = .ok (.goto 7, 3) := by decide +kernel
theorem dX5_make_275 : decode cX5_make 275 = .ok (.iconst 2, 1) := by decide +kernel
theorem dX5_make_276 : decode cX5_make 276 = .ok (.iload 4, 2) := by decide +kernel
theorem dX5_make_278 : decode cX5_make 278 = .ok (.imul, 1) := by decide +kernel
theorem dX5_make_279 : decode cX5_make 279 = .ok (.invokevirtual 107, 3) := by decide +kernel
theorem dX5_make_282 : decode cX5_make 282 = .ok (.aload_n 0, 1) := by decide +kernel
theorem dX5_make_283 : decode cX5_make 283 = .ok (.getfield 37, 3) := by decide +kernel
theorem dX5_make_286 : decode cX5_make 286 = .ok (.iload_n 2, 1) := by decide +kernel
theorem dX5_make_287 : decode cX5_make 287 = .ok (.iaload, 1) := by decide +kernel
theorem dX5_make_288 : decode cX5_make 288 = .ok (.aload_n 0, 1) := by decide +kernel
theorem dX5_make_289 : decode cX5_make 289 = .ok (.getfield 34, 3) := by decide +kernel
theorem dX5_make_292 : decode cX5_make 292 = .ok (.iload_n 2, 1) := by decide +kernel
theorem dX5_make_293 : decode cX5_make 293 = .ok (.iaload, 1) := by decide +kernel
theorem dX5_make_294 : decode cX5_make 294 = .ok (.iadd, 1) := by decide +kernel
theorem dX5_make_295 : decode cX5_make 295 = .ok (.istore_n 1, 1) := by decide +kernel
theorem dX5_make_296 : decode cX5_make 296 = .ok (.iinc 2 1, 3) := by decide +kernel
theorem dX5_make_299 : decode cX5_make 299 = .ok (.goto (-145), 3) := by decide +kernel
theorem dX5_make_302 : decode cX5_make 302 = .ok (.aload_n 0, 1) := by decide +kernel
theorem dX5_make_303 : decode cX5_make 303 = .ok (.getfield 67, 3) := by decide +kernel
theorem dX5_make_306 : decode cX5_make 306 = .ok (.ireturn, 1) := by decide +kernel
theorem dX5_steps_0 : decode cX5_steps 0 = .ok (.aload_n 0, 1) := by decide +kernel
theorem dX5_steps_1 : decode cX5_steps 1 = .ok (.iconst 0, 1) := by decide +kernel
theorem dX5_steps_2 : decode cX5_steps 2 = .ok (.putfield 52, 3) := by decide +kernel
theorem dX5_steps_5 : decode cX5_steps 5 = .ok (.aload_n 0, 1) := by decide +kernel
theorem dX5_steps_6 : decode cX5_steps 6 = .ok (.getfield 88, 3) := by decide +kernel
theorem dX5_steps_9 : decode cX5_steps 9 = .ok (.ireturn, 1) := by decide +kernel
theorem dX5_step_0 : decode cX5_step 0 = .ok (.aload_n 0, 1) := by decide +kernel
theorem dX5_step_1 : decode cX5_step 1 = .ok (.iconst 0, 1) := by decide +kernel
theorem dX5_step_2 : decode cX5_step 2 = .ok (.putfield 52, 3) := by decide +kernel
theorem dX5_step_5 : decode cX5_step 5 = .ok (.iload_n 1, 1) := by decide +kernel
theorem dX5_step_6 : decode cX5_step 6 = .ok (.ifCond .lt 11, 3) := by decide +kernel
theorem dX5_step_9 : decode cX5_step 9 = .ok (.iload_n 1, 1) := by decide +kernel
theorem dX5_step_10 : decode cX5_step 10 = .ok (.aload_n 0, 1) := by decide +kernel
theorem dX5_step_11 : decode cX5_step 11 = .ok (.getfield 88, 3) := by decide +kernel
theorem dX5_step_14 : decode cX5_step 14 = .ok (.if_icmp .lt 5, 3) := by decide +kernel
theorem dX5_step_17 : decode cX5_step 17 = .ok (.iconst (-1), 1) := by decide +kernel
theorem dX5_step_18 : decode cX5_step 18 = .ok (.ireturn, 1) := by decide +kernel
theorem dX5_step_19 : decode cX5_step 19 = .ok (.iload_n 2, 1) := by decide +kernel
theorem dX5_step_20 : decode cX5_step 20 = .ok (.tableswitch 91 0 5 #[40, 56, 63, 70, 77, 84], 40) := by decide +kernel
theorem dX5_step_60 : decode cX5_step 60 = .ok (.aload_n 0, 1) := by decide +kernel
theorem dX5_step_61 : decode cX5_step 61 = .ok (.getfield 37, 3) := by decide +kernel
theorem dX5_step_64 : decode cX5_step 64 = .ok (.iload_n 1, 1) := by decide +kernel
theorem dX5_step_65 : decode cX5_step 65 = .ok (.iaload, 1) := by decide +kernel
theorem dX5_step_66 : decode cX5_step 66 = .ok (.iconst (-1), 1) := by decide +kernel
theorem dX5_step_67 : decode cX5_step 67 = .ok (.if_icmp .ne 7, 3) := by decide +kernel
theorem dX5_step_70 : decode cX5_step 70 = .ok (.iconst 0, 1) := by decide +kernel
theorem dX5_step_71 : decode cX5_step 71 = .ok (.goto 4, 3) := by decide +kernel
theorem dX5_step_74 : decode cX5_step 74 = .ok (.iconst 1, 1) := by decide +kernel
theorem dX5_step_75 : decode cX5_step 75 = .ok (.ireturn, 1) := by decide +kernel
theorem dX5_step_76 : decode cX5_step 76 = .ok (.aload_n 0, 1) := by decide +kernel
theorem dX5_step_77 : decode cX5_step 77 = .ok (.getfield 31, 3) := by decide +kernel
theorem dX5_step_80 : decode cX5_step 80 = .ok (.iload_n 1, 1) := by decide +kernel
theorem dX5_step_81 : decode cX5_step 81 = .ok (.iaload, 1) := by decide +kernel
theorem dX5_step_82 : decode cX5_step 82 = .ok (.ireturn, 1) := by decide +kernel
theorem dX5_step_83 : decode cX5_step 83 = .ok (.aload_n 0, 1) := by decide +kernel
theorem dX5_step_84 : decode cX5_step 84 = .ok (.getfield 34, 3) := by decide +kernel
theorem dX5_step_87 : decode cX5_step 87 = .ok (.iload_n 1, 1) := by decide +kernel
theorem dX5_step_88 : decode cX5_step 88 = .ok (.iaload, 1) := by decide +kernel
theorem dX5_step_89 : decode cX5_step 89 = .ok (.ireturn, 1) := by decide +kernel
theorem dX5_step_90 : decode cX5_step 90 = .ok (.aload_n 0, 1) := by decide +kernel
theorem dX5_step_91 : decode cX5_step 91 = .ok (.getfield 37, 3) := by decide +kernel
theorem dX5_step_94 : decode cX5_step 94 = .ok (.iload_n 1, 1) := by decide +kernel
theorem dX5_step_95 : decode cX5_step 95 = .ok (.iaload, 1) := by decide +kernel
theorem dX5_step_96 : decode cX5_step 96 = .ok (.ireturn, 1) := by decide +kernel
theorem dX5_step_97 : decode cX5_step 97 = .ok (.aload_n 0, 1) := by decide +kernel
theorem dX5_step_98 : decode cX5_step 98 = .ok (.getfield 40, 3) := by decide +kernel
theorem dX5_step_101 : decode cX5_step 101 = .ok (.iload_n 1, 1) := by decide +kernel
theorem dX5_step_102 : decode cX5_step 102 = .ok (.iaload, 1) := by decide +kernel
theorem dX5_step_103 : decode cX5_step 103 = .ok (.ireturn, 1) := by decide +kernel
theorem dX5_step_104 : decode cX5_step 104 = .ok (.aload_n 0, 1) := by decide +kernel
theorem dX5_step_105 : decode cX5_step 105 = .ok (.getfield 43, 3) := by decide +kernel
theorem dX5_step_108 : decode cX5_step 108 = .ok (.iload_n 1, 1) := by decide +kernel
theorem dX5_step_109 : decode cX5_step 109 = .ok (.iaload, 1) := by decide +kernel
theorem dX5_step_110 : decode cX5_step 110 = .ok (.ireturn, 1) := by decide +kernel
theorem dX5_step_111 : decode cX5_step 111 = .ok (.iconst (-1), 1) := by decide +kernel
theorem dX5_step_112 : decode cX5_step 112 = .ok (.ireturn, 1) := by decide +kernel
theorem dX5_next_0 : decode cX5_next 0 = .ok (.aload_n 0, 1) := by decide +kernel
theorem dX5_next_1 : decode cX5_next 1 = .ok (.getfield 113, 3) := by decide +kernel
theorem dX5_next_4 : decode cX5_next 4 = .ok (.aload_n 0, 1) := by decide +kernel
theorem dX5_next_5 : decode cX5_next 5 = .ok (.getfield 67, 3) := by decide +kernel
theorem dX5_next_8 : decode cX5_next 8 = .ok (.if_icmp .lt 10, 3) := by decide +kernel
theorem dX5_next_11 : decode cX5_next 11 = .ok (.aload_n 0, 1) := by decide +kernel
theorem dX5_next_12 : decode cX5_next 12 = .ok (.iconst 1, 1) := by decide +kernel
theorem dX5_next_13 : decode cX5_next 13 = .ok (.putfield 116, 3) := by decide +kernel
theorem dX5_next_16 : decode cX5_next 16 = .ok (.iconst 0, 1) := by decide +kernel
theorem dX5_next_17 : decode cX5_next 17 = .ok (.ireturn, 1) := by decide +kernel
theorem dX5_next_18 : decode cX5_next 18 = .ok (.aload_n 0, 1) := by decide +kernel
theorem dX5_next_19 : decode cX5_next 19 = .ok (.dup, 1) := by decide +kernel
theorem dX5_next_20 : decode cX5_next 20 = .ok (.getfield 113, 3) := by decide +kernel
theorem dX5_next_23 : decode cX5_next 23 = .ok (.iconst 1, 1) := by decide +kernel
theorem dX5_next_24 : decode cX5_next 24 = .ok (.iadd, 1) := by decide +kernel
theorem dX5_next_25 : decode cX5_next 25 = .ok (.putfield 113, 3) := by decide +kernel
theorem dX5_next_28 : decode cX5_next 28 = .ok (.aload_n 0, 1) := by decide +kernel
theorem dX5_next_29 : decode cX5_next 29 = .ok (.getfield 19, 3) := by decide +kernel
theorem dX5_next_32 : decode cX5_next 32 = .ok (.aload_n 0, 1) := by decide +kernel
theorem dX5_next_33 : decode cX5_next 33 = .ok (.getfield 113, 3) := by decide +kernel
theorem dX5_next_36 : decode cX5_next 36 = .ok (.iconst 1, 1) := by decide +kernel
theorem dX5_next_37 : decode cX5_next 37 = .ok (.isub, 1) := by decide +kernel
theorem dX5_next_38 : decode cX5_next 38 = .ok (.iaload, 1) := by decide +kernel
theorem dX5_next_39 : decode cX5_next 39 = .ok (.ireturn, 1) := by decide +kernel
theorem dX5_nextNumber_0 : decode cX5_nextNumber 0 = .ok (.iconst 0, 1) := by decide +kernel
theorem dX5_nextNumber_1 : decode cX5_nextNumber 1 = .ok (.istore_n 1, 1) := by decide +kernel
theorem dX5_nextNumber_2 : decode cX5_nextNumber 2 = .ok (.iconst 0, 1) := by decide +kernel
theorem dX5_nextNumber_3 : decode cX5_nextNumber 3 = .ok (.istore_n 2, 1) := by decide +kernel
theorem dX5_nextNumber_4 : decode cX5_nextNumber 4 = .ok (.sipush 128, 3) := by decide +kernel
theorem dX5_nextNumber_7 : decode cX5_nextNumber 7 = .ok (.istore_n 3, 1) := by decide +kernel
theorem dX5_nextNumber_8 : decode cX5_nextNumber 8 = .ok (.iload_n 3, 1) := by decide +kernel
theorem dX5_nextNumber_9 : decode cX5_nextNumber 9 = .ok (.bipush 127, 2) := by decide +kernel
theorem dX5_nextNumber_11 : decode cX5_nextNumber 11 = .ok (.if_icmp .le 38, 3) := by decide +kernel
theorem dX5_nextNumber_14 : decode cX5_nextNumber 14 = .ok (.iload_n 2, 1) := by decide +kernel
theorem dX5_nextNumber_15 : decode cX5_nextNumber 15 = .ok (.iconst 4, 1) := by decide +kernel
theorem dX5_nextNumber_16 : decode cX5_nextNumber 16 = .ok (.if_icmp .ge 33, 3) := by decide +kernel
theorem dX5_nextNumber_19 : decode cX5_nextNumber 19 = .ok (.aload_n 0, 1) := by decide +kernel
theorem dX5_nextNumber_20 : decode cX5_nextNumber 20 = .ok (.getfield 116, 3) := by decide +kernel
theorem dX5_nextNumber_23 : decode cX5_nextNumber 23 = .ok (.ifCond .ne 26, 3) := by decide +kernel
theorem dX5_nextNumber_26 : decode cX5_nextNumber 26 = .ok (.aload_n 0, 1) := by decide +kernel
theorem dX5_nextNumber_27 : decode cX5_nextNumber 27 = .ok (.invokevirtual 120, 3) := by decide +kernel
theorem dX5_nextNumber_30 : decode cX5_nextNumber 30 = .ok (.istore_n 3, 1) := by decide +kernel
theorem dX5_nextNumber_31 : decode cX5_nextNumber 31 = .ok (.iload_n 1, 1) := by decide +kernel
theorem dX5_nextNumber_32 : decode cX5_nextNumber 32 = .ok (.iload_n 3, 1) := by decide +kernel
theorem dX5_nextNumber_33 : decode cX5_nextNumber 33 = .ok (.bipush 127, 2) := by decide +kernel
theorem dX5_nextNumber_35 : decode cX5_nextNumber 35 = .ok (.iand, 1) := by decide +kernel
theorem dX5_nextNumber_36 : decode cX5_nextNumber 36 = .ok (.bipush 7, 2) := by decide +kernel
theorem dX5_nextNumber_38 : decode cX5_nextNumber 38 = .ok (.iload_n 2, 1) := by decide +kernel
theorem dX5_nextNumber_39 : decode cX5_nextNumber 39 = .ok (.imul, 1) := by decide +kernel
theorem dX5_nextNumber_40 : decode cX5_nextNumber 40 = .ok (.ishl, 1) := by decide +kernel
theorem dX5_nextNumber_41 : decode cX5_nextNumber 41 = .ok (.ior, 1) := by decide +kernel
theorem dX5_nextNumber_42 : decode cX5_nextNumber 42 = .ok (.istore_n 1, 1) := by decide +kernel
theorem dX5_nextNumber_43 : decode cX5_nextNumber 43 = .ok (.iinc 2 1, 3) := by decide +kernel
theorem dX5_nextNumber_46 : decode cX5_nextNumber 46 = .ok (.goto (-38), 3) := by decide +kernel
theorem dX5_nextNumber_49 : decode cX5_nextNumber 49 = .ok (.iload_n 3, 1) := by decide +kernel
theorem dX5_nextNumber_50 : decode cX5_nextNumber 50 = .ok (.bipush 127, 2) := by decide +kernel
theorem dX5_nextNumber_52 : decode cX5_nextNumber 52 = .ok (.if_icmp .gt 12, 3) := by decide +kernel
theorem dX5_nextNumber_55 : decode cX5_nextNumber 55 = .ok (.iload_n 3, 1) := by decide +kernel
theorem dX5_nextNumber_56 : decode cX5_nextNumber 56 = .ok (.ifCond .ne 13, 3) := by decide +kernel
theorem dX5_nextNumber_59 : decode cX5_nextNumber 59 = .ok (.iload_n 2, 1) := by decide +kernel
theorem dX5_nextNumber_60 : decode cX5_nextNumber 60 = .ok (.iconst 1, 1) := by decide +kernel
theorem dX5_nextNumber_61 : decode cX5_nextNumber 61 = .ok (.if_icmp .le 8, 3) := by decide +kernel
theorem dX5_nextNumber_64 : decode cX5_nextNumber 64 = .ok (.aload_n 0, 1) := by decide +kernel
theorem dX5_nextNumber_65 : decode cX5_nextNumber 65 = .ok (.iconst 1, 1) := by decide +kernel
theorem dX5_nextNumber_66 : decode cX5_nextNumber 66 = .ok (.putfield 116, 3) := by decide +kernel
theorem dX5_nextNumber_69 : decode cX5_nextNumber 69 = .ok (.iload_n 1, 1) := by decide +kernel
theorem dX5_nextNumber_70 : decode cX5_nextNumber 70 = .ok (.ireturn, 1) := by decide +kernel
theorem dX5_nextCheck_0 : decode cX5_nextCheck 0 = .ok (.iconst 0, 1) := by decide +kernel
theorem dX5_nextCheck_1 : decode cX5_nextCheck 1 = .ok (.istore_n 1, 1) := by decide +kernel
theorem dX5_nextCheck_2 : decode cX5_nextCheck 2 = .ok (.iconst 0, 1) := by decide +kernel
theorem dX5_nextCheck_3 : decode cX5_nextCheck 3 = .ok (.istore_n 2, 1) := by decide +kernel
theorem dX5_nextCheck_4 : decode cX5_nextCheck 4 = .ok (.iload_n 2, 1) := by decide +kernel
theorem dX5_nextCheck_5 : decode cX5_nextCheck 5 = .ok (.iconst 4, 1) := by decide +kernel
theorem dX5_nextCheck_6 : decode cX5_nextCheck 6 = .ok (.if_icmp .ge 19, 3) := by decide +kernel
theorem dX5_nextCheck_9 : decode cX5_nextCheck 9 = .ok (.iload_n 1, 1) := by decide +kernel
theorem dX5_nextCheck_10 : decode cX5_nextCheck 10 = .ok (.bipush 8, 2) := by decide +kernel
theorem dX5_nextCheck_12 : decode cX5_nextCheck 12 = .ok (.ishl, 1) := by decide +kernel
theorem dX5_nextCheck_13 : decode cX5_nextCheck 13 = .ok (.aload_n 0, 1) := by decide +kernel
theorem dX5_nextCheck_14 : decode cX5_nextCheck 14 = .ok (.invokevirtual 120, 3) := by decide +kernel
theorem dX5_nextCheck_17 : decode cX5_nextCheck 17 = .ok (.ior, 1) := by decide +kernel
theorem dX5_nextCheck_18 : decode cX5_nextCheck 18 = .ok (.istore_n 1, 1) := by decide +kernel
theorem dX5_nextCheck_19 : decode cX5_nextCheck 19 = .ok (.iinc 2 1, 3) := by decide +kernel
theorem dX5_nextCheck_22 : decode cX5_nextCheck 22 = .ok (.goto (-18), 3) := by decide +kernel
theorem dX5_nextCheck_25 : decode cX5_nextCheck 25 = .ok (.iload_n 1, 1) := by decide +kernel
theorem dX5_nextCheck_26 : decode cX5_nextCheck 26 = .ok (.ireturn, 1) := by decide +kernel
theorem dX5_applied_0 : decode cX5_applied 0 = .ok (.aload_n 0, 1) := by decide +kernel
theorem dX5_applied_1 : decode cX5_applied 1 = .ok (.iconst 0, 1) := by decide +kernel
theorem dX5_applied_2 : decode cX5_applied 2 = .ok (.putfield 113, 3) := by decide +kernel
theorem dX5_applied_5 : decode cX5_applied 5 = .ok (.aload_n 0, 1) := by decide +kernel
theorem dX5_applied_6 : decode cX5_applied 6 = .ok (.iconst 0, 1) := by decide +kernel
theorem dX5_applied_7 : decode cX5_applied 7 = .ok (.putfield 116, 3) := by decide +kernel
theorem dX5_applied_10 : decode cX5_applied 10 = .ok (.aload_n 0, 1) := by decide +kernel
theorem dX5_applied_11 : decode cX5_applied 11 = .ok (.iconst 0, 1) := by decide +kernel
theorem dX5_applied_12 : decode cX5_applied 12 = .ok (.putfield 70, 3) := by decide +kernel
theorem dX5_applied_15 : decode cX5_applied 15 = .ok (.aload_n 0, 1) := by decide +kernel
theorem dX5_applied_16 : decode cX5_applied 16 = .ok (.invokevirtual 124, 3) := by decide +kernel
theorem dX5_applied_19 : decode cX5_applied 19 = .ok (.istore_n 1, 1) := by decide +kernel
theorem dX5_applied_20 : decode cX5_applied 20 = .ok (.aload_n 0, 1) := by decide +kernel
theorem dX5_applied_21 : decode cX5_applied 21 = .ok (.getfield 116, 3) := by decide +kernel
theorem dX5_applied_24 : decode cX5_applied 24 = .ok (.ifCond .eq 7, 3) := by decide +kernel
theorem dX5_applied_27 : decode cX5_applied 27 = .ok (.iconst 0, 1) := by decide +kernel
theorem dX5_applied_28 : decode cX5_applied 28 = .ok (.goto 7, 3) := by decide +kernel
theorem dX5_applied_31 : decode cX5_applied 31 = .ok (.aload_n 0, 1) := by decide +kernel
theorem dX5_applied_32 : decode cX5_applied 32 = .ok (.invokevirtual 124, 3) := by decide +kernel
theorem dX5_applied_35 : decode cX5_applied 35 = .ok (.istore_n 2, 1) := by decide +kernel
theorem dX5_applied_36 : decode cX5_applied 36 = .ok (.aload_n 0, 1) := by decide +kernel
theorem dX5_applied_37 : decode cX5_applied 37 = .ok (.invokevirtual 127, 3) := by decide +kernel
theorem dX5_applied_40 : decode cX5_applied 40 = .ok (.istore_n 3, 1) := by decide +kernel
theorem dX5_applied_41 : decode cX5_applied 41 = .ok (.aload_n 0, 1) := by decide +kernel
theorem dX5_applied_42 : decode cX5_applied 42 = .ok (.invokevirtual 127, 3) := by decide +kernel
theorem dX5_applied_45 : decode cX5_applied 45 = .ok (.istore 4, 2) := by decide +kernel
theorem dX5_applied_47 : decode cX5_applied 47 = .ok (.aload_n 0, 1) := by decide +kernel
theorem dX5_applied_48 : decode cX5_applied 48 = .ok (.getfield 116, 3) := by decide +kernel
theorem dX5_applied_51 : decode cX5_applied 51 = .ok (.ifCond .eq 5, 3) := by decide +kernel
theorem dX5_applied_54 : decode cX5_applied 54 = .ok (.iconst (-1), 1) := by decide +kernel
theorem dX5_applied_55 : decode cX5_applied 55 = .ok (.ireturn, 1) := by decide +kernel
theorem dX5_applied_56 : decode cX5_applied 56 = .ok (.iload_n 1, 1) := by decide +kernel
theorem dX5_applied_57 : decode cX5_applied 57 = .ok (.aload_n 0, 1) := by decide +kernel
theorem dX5_applied_58 : decode cX5_applied 58 = .ok (.getfield 61, 3) := by decide +kernel
theorem dX5_applied_61 : decode cX5_applied 61 = .ok (.if_icmp .eq 6, 3) := by decide +kernel
theorem dX5_applied_64 : decode cX5_applied 64 = .ok (.bipush (-2), 2) := by decide +kernel
theorem dX5_applied_66 : decode cX5_applied 66 = .ok (.ireturn, 1) := by decide +kernel
theorem dX5_applied_67 : decode cX5_applied 67 = .ok (.iload_n 3, 1) := by decide +kernel
theorem dX5_applied_68 : decode cX5_applied 68 = .ok (.aload_n 0, 1) := by decide +kernel
theorem dX5_applied_69 : decode cX5_applied 69 = .ok (.iconst 0, 1) := by decide +kernel
theorem dX5_applied_70 : decode cX5_applied 70 = .ok (.invokevirtual 85, 3) := by decide +kernel
theorem dX5_applied_73 : decode cX5_applied 73 = .ok (.if_icmp .eq 6, 3) := by decide +kernel
theorem dX5_applied_76 : decode cX5_applied 76 = .ok (.bipush (-3), 2) := by decide +kernel
theorem dX5_applied_78 : decode cX5_applied 78 = .ok (.ireturn, 1) := by decide +kernel
theorem dX5_applied_79 : decode cX5_applied 79 = .ok (.iload_n 2, 1) := by decide +kernel
theorem dX5_applied_80 : decode cX5_applied 80 = .ok (.sipush 300, 3) := by decide +kernel
theorem dX5_applied_83 : decode cX5_applied 83 = .ok (.if_icmp .le 6, 3) := by decide +kernel
theorem dX5_applied_86 : decode cX5_applied 86 = .ok (.bipush (-4), 2) := by decide +kernel
theorem dX5_applied_88 : decode cX5_applied 88 = .ok (.ireturn, 1) := by decide +kernel
theorem dX5_applied_89 : decode cX5_applied 89 = .ok (.iconst 0, 1) := by decide +kernel
theorem dX5_applied_90 : decode cX5_applied 90 = .ok (.istore 5, 2) := by decide +kernel
theorem dX5_applied_92 : decode cX5_applied 92 = .ok (.aload_n 0, 1) := by decide +kernel
theorem dX5_applied_93 : decode cX5_applied 93 = .ok (.getfield 113, 3) := by decide +kernel
theorem dX5_applied_96 : decode cX5_applied 96 = .ok (.aload_n 0, 1) := by decide +kernel
theorem dX5_applied_97 : decode cX5_applied 97 = .ok (.getfield 67, 3) := by decide +kernel
theorem dX5_applied_100 : decode cX5_applied 100 = .ok (.if_icmp .ge 218, 3) := by decide +kernel
theorem dX5_applied_103 : decode cX5_applied 103 = .ok (.aload_n 0, 1) := by decide +kernel
theorem dX5_applied_104 : decode cX5_applied 104 = .ok (.invokevirtual 124, 3) := by decide +kernel
theorem dX5_applied_107 : decode cX5_applied 107 = .ok (.istore 6, 2) := by decide +kernel
theorem dX5_applied_109 : decode cX5_applied 109 = .ok (.iload 6, 2) := by decide +kernel
theorem dX5_applied_111 : decode cX5_applied 111 = .ok (.iconst 2, 1) := by decide +kernel
theorem dX5_applied_112 : decode cX5_applied 112 = .ok (.idiv, 1) := by decide +kernel
theorem dX5_applied_113 : decode cX5_applied 113 = .ok (.istore 7, 2) := by decide +kernel
theorem dX5_applied_115 : decode cX5_applied 115 = .ok (.aload_n 0, 1) := by decide +kernel
theorem dX5_applied_116 : decode cX5_applied 116 = .ok (.getfield 116, 3) := by decide +kernel
theorem dX5_applied_119 : decode cX5_applied 119 = .ok (.ifCond .ne 8, 3) := by decide +kernel
theorem dX5_applied_122 : decode cX5_applied 122 = .ok (.iload 7, 2) := by decide +kernel
theorem dX5_applied_124 : decode cX5_applied 124 = .ok (.ifCond .ne 5, 3) := by decide +kernel
theorem dX5_applied_127 : decode cX5_applied 127 = .ok (.iconst (-1), 1) := by decide +kernel
theorem dX5_applied_128 : decode cX5_applied 128 = .ok (.ireturn, 1) := by decide +kernel
theorem dX5_applied_129 : decode cX5_applied 129 = .ok (.iconst (-1), 1) := by decide +kernel
theorem dX5_applied_130 : decode cX5_applied 130 = .ok (.istore 8, 2) := by decide +kernel
theorem dX5_applied_132 : decode cX5_applied 132 = .ok (.iload 6, 2) := by decide +kernel
theorem dX5_applied_134 : decode cX5_applied 134 = .ok (.iconst 2, 1) := by decide +kernel
theorem dX5_applied_135 : decode cX5_applied 135 = .ok (.irem, 1) := by decide +kernel
theorem dX5_applied_136 : decode cX5_applied 136 = .ok (.iconst 1, 1) := by decide +kernel
theorem dX5_applied_137 : decode cX5_applied 137 = .ok (.if_icmp .ne 68, 3) := by decide +kernel
theorem dX5_applied_140 : decode cX5_applied 140 = .ok (.aload_n 0, 1) := by decide +kernel
theorem dX5_applied_141 : decode cX5_applied 141 = .ok (.invokevirtual 124, 3) := by decide +kernel
theorem dX5_applied_144 : decode cX5_applied 144 = .ok (.istore 9, 2) := by decide +kernel
theorem dX5_applied_146 : decode cX5_applied 146 = .ok (.aload_n 0, 1) := by decide +kernel
theorem dX5_applied_147 : decode cX5_applied 147 = .ok (.getfield 116, 3) := by decide +kernel
theorem dX5_applied_150 : decode cX5_applied 150 = .ok (.ifCond .eq 5, 3) := by decide +kernel
theorem dX5_applied_153 : decode cX5_applied 153 = .ok (.iconst (-1), 1) := by decide +kernel
theorem dX5_applied_154 : decode cX5_applied 154 = .ok (.ireturn, 1) := by decide +kernel
theorem dX5_applied_155 : decode cX5_applied 155 = .ok (.iload 5, 2) := by decide +kernel
theorem dX5_applied_157 : decode cX5_applied 157 = .ok (.iload 9, 2) := by decide +kernel
theorem dX5_applied_159 : decode cX5_applied 159 = .ok (.iconst 2, 1) := by decide +kernel
theorem dX5_applied_160 : decode cX5_applied 160 = .ok (.irem, 1) := by decide +kernel
theorem dX5_applied_161 : decode cX5_applied 161 = .ok (.iconst 1, 1) := by decide +kernel
theorem dX5_applied_162 : decode cX5_applied 162 = .ok (.if_icmp .ne 13, 3) := by decide +kernel
theorem dX5_applied_165 : decode cX5_applied 165 = .ok (.iload 9, 2) := by decide +kernel
theorem dX5_applied_167 : decode cX5_applied 167 = .ok (.iconst 2, 1) := by decide +kernel
theorem dX5_applied_168 : decode cX5_applied 168 = .ok (.idiv, 1) := by decide +kernel
theorem dX5_applied_169 : decode cX5_applied 169 = .ok (.ineg, 1) := by decide +kernel
theorem dX5_applied_170 : decode cX5_applied 170 = .ok (.iconst 1, 1) := by decide +kernel
theorem dX5_applied_171 : decode cX5_applied 171 = .ok (.isub, 1) := by decide +kernel
theorem dX5_applied_172 : decode cX5_applied 172 = .ok (.goto 7, 3) := by decide +kernel
theorem dX5_applied_175 : decode cX5_applied 175 = .ok (.iload 9, 2) := by decide +kernel
theorem dX5_applied_177 : decode cX5_applied 177 = .ok (.iconst 2, 1) := by decide +kernel
theorem dX5_applied_178 : decode cX5_applied 178 = .ok (.idiv, 1) := by decide +kernel
theorem dX5_applied_179 : decode cX5_applied 179 = .ok (.iadd, 1) := by decide +kernel
theorem dX5_applied_180 : decode cX5_applied 180 = .ok (.istore 8, 2) := by decide +kernel
theorem dX5_applied_182 : decode cX5_applied 182 = .ok (.iload 8, 2) := by decide +kernel
theorem dX5_applied_184 : decode cX5_applied 184 = .ok (.ifCond .lt 15, 3) := by decide +kernel
theorem dX5_applied_187 : decode cX5_applied 187 = .ok (.iload 8, 2) := by decide +kernel
theorem dX5_applied_189 : decode cX5_applied 189 = .ok (.iload 7, 2) := by decide +kernel
theorem dX5_applied_191 : decode cX5_applied 191 = .ok (.iadd, 1) := by decide +kernel
theorem dX5_applied_192 : decode cX5_applied 192 = .ok (.aload_n 0, 1) := by decide +kernel
theorem dX5_applied_193 : decode cX5_applied 193 = .ok (.getfield 61, 3) := by decide +kernel
theorem dX5_applied_196 : decode cX5_applied 196 = .ok (.if_icmp .le 6, 3) := by decide +kernel
theorem dX5_applied_199 : decode cX5_applied 199 = .ok (.bipush (-5), 2) := by decide +kernel
theorem dX5_applied_201 : decode cX5_applied 201 = .ok (.ireturn, 1) := by decide +kernel
theorem dX5_applied_202 : decode cX5_applied 202 = .ok (.goto 19, 3) := by decide +kernel
theorem dX5_applied_205 : decode cX5_applied 205 = .ok (.aload_n 0, 1) := by decide +kernel
theorem dX5_applied_206 : decode cX5_applied 206 = .ok (.getfield 113, 3) := by decide +kernel
theorem dX5_applied_209 : decode cX5_applied 209 = .ok (.iload 7, 2) := by decide +kernel
theorem dX5_applied_211 : decode cX5_applied 211 = .ok (.iadd, 1) := by decide +kernel
theorem dX5_applied_212 : decode cX5_applied 212 = .ok (.aload_n 0, 1) := by decide +kernel
theorem dX5_applied_213 : decode cX5_applied 213 = .ok (.getfield 67, 3) := by decide +kernel
theorem dX5_applied_216 : decode cX5_applied 216 = .ok (.if_icmp .le 5, 3) := by decide +kernel
theorem dX5_applied_219 : decode cX5_applied 219 = .ok (.iconst (-1), 1) := by decide +kernel
theorem dX5_applied_220 : decode cX5_applied 220 = .ok (.ireturn, 1) := by decide +kernel
theorem dX5_applied_221 : decode cX5_applied 221 = .ok (.aload_n 0, 1) := by decide +kernel
theorem dX5_applied_222 : decode cX5_applied 222 = .ok (.getfield 70, 3) := by decide +kernel
theorem dX5_applied_225 : decode cX5_applied 225 = .ok (.iload 7, 2) := by decide +kernel
theorem dX5_applied_227 : decode cX5_applied 227 = .ok (.iadd, 1) := by decide +kernel
theorem dX5_applied_228 : decode cX5_applied 228 = .ok (.iload_n 2, 1) := by decide +kernel
theorem dX5_applied_229 : decode cX5_applied 229 = .ok (.if_icmp .le 6, 3) := by decide +kernel
theorem dX5_applied_232 : decode cX5_applied 232 = .ok (.bipush (-6), 2) := by decide +kernel
theorem dX5_applied_234 : decode cX5_applied 234 = .ok (.ireturn, 1) := by decide +kernel
theorem dX5_applied_235 : decode cX5_applied 235 = .ok (.iconst 0, 1) := by decide +kernel
theorem dX5_applied_236 : decode cX5_applied 236 = .ok (.istore 9, 2) := by decide +kernel
theorem dX5_applied_238 : decode cX5_applied 238 = .ok (.iload 9, 2) := by decide +kernel
theorem dX5_applied_240 : decode cX5_applied 240 = .ok (.iload 7, 2) := by decide +kernel
theorem dX5_applied_242 : decode cX5_applied 242 = .ok (.if_icmp .ge 44, 3) := by decide +kernel
theorem dX5_applied_245 : decode cX5_applied 245 = .ok (.aload_n 0, 1) := by decide +kernel
theorem dX5_applied_246 : decode cX5_applied 246 = .ok (.getfield 22, 3) := by decide +kernel
theorem dX5_applied_249 : decode cX5_applied 249 = .ok (.aload_n 0, 1) := by decide +kernel
theorem dX5_applied_250 : decode cX5_applied 250 = .ok (.getfield 70, 3) := by decide +kernel
theorem dX5_applied_253 : decode cX5_applied 253 = .ok (.iload 9, 2) := by decide +kernel
theorem dX5_applied_255 : decode cX5_applied 255 = .ok (.iadd, 1) := by decide +kernel
theorem dX5_applied_256 : decode cX5_applied 256 = .ok (.iload 8, 2) := by decide +kernel
theorem dX5_applied_258 : decode cX5_applied 258 = .ok (.iconst (-1), 1) := by decide +kernel
theorem dX5_applied_259 : decode cX5_applied 259 = .ok (.if_icmp .ne 10, 3) := by decide +kernel
theorem dX5_applied_262 : decode cX5_applied 262 = .ok (.aload_n 0, 1) := by decide +kernel
theorem dX5_applied_263 : decode cX5_applied 263 = .ok (.invokevirtual 120, 3) := by decide +kernel
theorem dX5_applied_266 : decode cX5_applied 266 = .ok (.goto 13, 3) := by decide +kernel
theorem dX5_applied_269 : decode cX5_applied 269 = .ok (.aload_n 0, 1) := by decide +kernel
theorem dX5_applied_270 : decode cX5_applied 270 = .ok (.getfield 13, 3) := by decide +kernel
theorem dX5_applied_273 : decode cX5_applied 273 = .ok (.iload 8, 2) := by decide +kernel
theorem dX5_applied_275 : decode cX5_applied 275 = .ok (.iload 9, 2) := by decide +kernel
theorem dX5_applied_277 : decode cX5_applied 277 = .ok (.iadd, 1) := by decide +kernel
theorem dX5_applied_278 : decode cX5_applied 278 = .ok (.iaload, 1) := by decide +kernel
theorem dX5_applied_279 : decode cX5_applied 279 = .ok (.iastore, 1) := by decide +kernel
theorem dX5_applied_280 : decode cX5_applied 280 = .ok (.iinc 9 1, 3) := by decide +kernel
theorem dX5_applied_283 : decode cX5_applied 283 = .ok (.goto (-45), 3) := by decide +kernel
theorem dX5_applied_286 : decode cX5_applied 286 = .ok (.aload_n 0, 1) := by decide +kernel
theorem dX5_applied_287 : decode cX5_applied 287 = .ok (.dup, 1) := by decide +kernel
theorem dX5_applied_288 : decode cX5_applied 288 = .ok (.getfield 70, 3) := by decide +kernel
theorem dX5_applied_291 : decode cX5_applied 291 = .ok (.iload 7, 2) := by decide +kernel
theorem dX5_applied_293 : decode cX5_applied 293 = .ok (.iadd, 1) := by decide +kernel
theorem dX5_applied_294 : decode cX5_applied 294 = .ok (.putfield 70, 3) := by decide +kernel
theorem dX5_applied_297 : decode cX5_applied 297 = .ok (.iload 8, 2) := by decide +kernel
theorem dX5_applied_299 : decode cX5_applied 299 = .ok (.iconst (-1), 1) := by decide +kernel
theorem dX5_applied_300 : decode cX5_applied 300 = .ok (.if_icmp .ne 8, 3) := by decide +kernel
theorem dX5_applied_303 : decode cX5_applied 303 = .ok (.iload 5, 2) := by decide +kernel
theorem dX5_applied_305 : decode cX5_applied 305 = .ok (.goto 8, 3) := by decide +kernel
theorem dX5_applied_308 : decode cX5_applied 308 = .ok (.iload 8, 2) := by decide +kernel
theorem dX5_applied_310 : decode cX5_applied 310 = .ok (.iload 7, 2) := by decide +kernel
theorem dX5_applied_312 : decode cX5_applied 312 = .ok (.iadd, 1) := by decide +kernel
theorem dX5_applied_313 : decode cX5_applied 313 = .ok (.istore 5, 2) := by decide +kernel
theorem dX5_applied_315 : decode cX5_applied 315 = .ok (.goto (-223), 3) := by decide +kernel
theorem dX5_applied_318 : decode cX5_applied 318 = .ok (.aload_n 0, 1) := by decide +kernel
theorem dX5_applied_319 : decode cX5_applied 319 = .ok (.getfield 70, 3) := by decide +kernel
theorem dX5_applied_322 : decode cX5_applied 322 = .ok (.iload_n 2, 1) := by decide +kernel
theorem dX5_applied_323 : decode cX5_applied 323 = .ok (.if_icmp .ge 6, 3) := by decide +kernel
theorem dX5_applied_326 : decode cX5_applied 326 = .ok (.bipush (-7), 2) := by decide +kernel
theorem dX5_applied_328 : decode cX5_applied 328 = .ok (.ireturn, 1) := by decide +kernel
theorem dX5_applied_329 : decode cX5_applied 329 = .ok (.iload 4, 2) := by decide +kernel
theorem dX5_applied_331 : decode cX5_applied 331 = .ok (.aload_n 0, 1) := by decide +kernel
theorem dX5_applied_332 : decode cX5_applied 332 = .ok (.iconst 3, 1) := by decide +kernel
theorem dX5_applied_333 : decode cX5_applied 333 = .ok (.invokevirtual 85, 3) := by decide +kernel
theorem dX5_applied_336 : decode cX5_applied 336 = .ok (.if_icmp .ne 10, 3) := by decide +kernel
theorem dX5_applied_339 : decode cX5_applied 339 = .ok (.aload_n 0, 1) := by decide +kernel
theorem dX5_applied_340 : decode cX5_applied 340 = .ok (.getfield 70, 3) := by decide +kernel
theorem dX5_applied_343 : decode cX5_applied 343 = .ok (.goto 5, 3) := by decide +kernel
theorem dX5_applied_346 : decode cX5_applied 346 = .ok (.bipush (-8), 2) := by decide +kernel
theorem dX5_applied_348 : decode cX5_applied 348 = .ok (.ireturn, 1) := by decide +kernel
theorem dX5_apply_0 : decode cX5_apply 0 = .ok (.aload_n 0, 1) := by decide +kernel
theorem dX5_apply_1 : decode cX5_apply 1 = .ok (.iconst 0, 1) := by decide +kernel
theorem dX5_apply_2 : decode cX5_apply 2 = .ok (.putfield 52, 3) := by decide +kernel
theorem dX5_apply_5 : decode cX5_apply 5 = .ok (.aload_n 0, 1) := by decide +kernel
theorem dX5_apply_6 : decode cX5_apply 6 = .ok (.invokevirtual 130, 3) := by decide +kernel
theorem dX5_apply_9 : decode cX5_apply 9 = .ok (.istore_n 1, 1) := by decide +kernel
theorem dX5_apply_10 : decode cX5_apply 10 = .ok (.iload_n 1, 1) := by decide +kernel
theorem dX5_apply_11 : decode cX5_apply 11 = .ok (.ifCond .ge 8, 3) := by decide +kernel
theorem dX5_apply_14 : decode cX5_apply 14 = .ok (.aload_n 0, 1) := by decide +kernel
theorem dX5_apply_15 : decode cX5_apply 15 = .ok (.iconst 0, 1) := by decide +kernel
theorem dX5_apply_16 : decode cX5_apply 16 = .ok (.putfield 70, 3) := by decide +kernel
theorem dX5_apply_19 : decode cX5_apply 19 = .ok (.iload_n 1, 1) := by decide +kernel
theorem dX5_apply_20 : decode cX5_apply 20 = .ok (.ireturn, 1) := by decide +kernel
theorem dX5_meets_0 : decode cX5_meets 0 = .ok (.iload_n 0, 1) := by decide +kernel
theorem dX5_meets_1 : decode cX5_meets 1 = .ok (.iload_n 2, 1) := by decide +kernel
theorem dX5_meets_2 : decode cX5_meets 2 = .ok (.iload_n 3, 1) := by decide +kernel
theorem dX5_meets_3 : decode cX5_meets 3 = .ok (.iadd, 1) := by decide +kernel
theorem dX5_meets_4 : decode cX5_meets 4 = .ok (.if_icmp .ge 14, 3) := by decide +kernel
theorem dX5_meets_7 : decode cX5_meets 7 = .ok (.iload_n 2, 1) := by decide +kernel
theorem dX5_meets_8 : decode cX5_meets 8 = .ok (.iload_n 0, 1) := by decide +kernel
theorem dX5_meets_9 : decode cX5_meets 9 = .ok (.iload_n 1, 1) := by decide +kernel
theorem dX5_meets_10 : decode cX5_meets 10 = .ok (.iadd, 1) := by decide +kernel
theorem dX5_meets_11 : decode cX5_meets 11 = .ok (.if_icmp .ge 7, 3) := by decide +kernel
theorem dX5_meets_14 : decode cX5_meets 14 = .ok (.iconst 1, 1) := by decide +kernel
theorem dX5_meets_15 : decode cX5_meets 15 = .ok (.goto 4, 3) := by decide +kernel
theorem dX5_meets_18 : decode cX5_meets 18 = .ok (.iconst 0, 1) := by decide +kernel
theorem dX5_meets_19 : decode cX5_meets 19 = .ok (.ireturn, 1) := by decide +kernel
theorem dX5_isFree_0 : decode cX5_isFree 0 = .ok (.iconst 1, 1) := by decide +kernel
theorem dX5_isFree_1 : decode cX5_isFree 1 = .ok (.istore_n 2, 1) := by decide +kernel
theorem dX5_isFree_2 : decode cX5_isFree 2 = .ok (.iconst 0, 1) := by decide +kernel
theorem dX5_isFree_3 : decode cX5_isFree 3 = .ok (.istore_n 3, 1) := by decide +kernel
theorem dX5_isFree_4 : decode cX5_isFree 4 = .ok (.iload_n 3, 1) := by decide +kernel
theorem dX5_isFree_5 : decode cX5_isFree 5 = .ok (.aload_n 0, 1) := by decide +kernel
theorem dX5_isFree_6 : decode cX5_isFree 6 = .ok (.getfield 88, 3) := by decide +kernel
theorem dX5_isFree_9 : decode cX5_isFree 9 = .ok (.if_icmp .ge 84, 3) := by decide +kernel
theorem dX5_isFree_12 : decode cX5_isFree 12 = .ok (.iload_n 2, 1) := by decide +kernel
theorem dX5_isFree_13 : decode cX5_isFree 13 = .ok (.ifCond .eq 80, 3) := by decide +kernel
theorem dX5_isFree_16 : decode cX5_isFree 16 = .ok (.iload_n 3, 1) := by decide +kernel
theorem dX5_isFree_17 : decode cX5_isFree 17 = .ok (.iload_n 1, 1) := by decide +kernel
theorem dX5_isFree_18 : decode cX5_isFree 18 = .ok (.if_icmp .eq 63, 3) := by decide +kernel
theorem dX5_isFree_21 : decode cX5_isFree 21 = .ok (.aload_n 0, 1) := by decide +kernel
theorem dX5_isFree_22 : decode cX5_isFree 22 = .ok (.getfield 43, 3) := by decide +kernel
theorem dX5_isFree_25 : decode cX5_isFree 25 = .ok (.iload_n 3, 1) := by decide +kernel
theorem dX5_isFree_26 : decode cX5_isFree 26 = .ok (.iaload, 1) := by decide +kernel
theorem dX5_isFree_27 : decode cX5_isFree 27 = .ok (.iconst (-1), 1) := by decide +kernel
theorem dX5_isFree_28 : decode cX5_isFree 28 = .ok (.if_icmp .ne 53, 3) := by decide +kernel
theorem dX5_isFree_31 : decode cX5_isFree 31 = .ok (.aload_n 0, 1) := by decide +kernel
theorem dX5_isFree_32 : decode cX5_isFree 32 = .ok (.getfield 37, 3) := by decide +kernel
theorem dX5_isFree_35 : decode cX5_isFree 35 = .ok (.iload_n 3, 1) := by decide +kernel
theorem dX5_isFree_36 : decode cX5_isFree 36 = .ok (.iaload, 1) := by decide +kernel
theorem dX5_isFree_37 : decode cX5_isFree 37 = .ok (.iconst (-1), 1) := by decide +kernel
theorem dX5_isFree_38 : decode cX5_isFree 38 = .ok (.if_icmp .eq 43, 3) := by decide +kernel
theorem dX5_isFree_41 : decode cX5_isFree 41 = .ok (.aload_n 0, 1) := by decide +kernel
theorem dX5_isFree_42 : decode cX5_isFree 42 = .ok (.getfield 40, 3) := by decide +kernel
theorem dX5_isFree_45 : decode cX5_isFree 45 = .ok (.iload_n 3, 1) := by decide +kernel
theorem dX5_isFree_46 : decode cX5_isFree 46 = .ok (.iaload, 1) := by decide +kernel
theorem dX5_isFree_47 : decode cX5_isFree 47 = .ok (.iconst 1, 1) := by decide +kernel
theorem dX5_isFree_48 : decode cX5_isFree 48 = .ok (.if_icmp .eq 33, 3) := by decide +kernel
theorem dX5_isFree_51 : decode cX5_isFree 51 = .ok (.aload_n 0, 1) := by decide +kernel
theorem dX5_isFree_52 : decode cX5_isFree 52 = .ok (.getfield 31, 3) := by decide +kernel
theorem dX5_isFree_55 : decode cX5_isFree 55 = .ok (.iload_n 1, 1) := by decide +kernel
theorem dX5_isFree_56 : decode cX5_isFree 56 = .ok (.iaload, 1) := by decide +kernel
theorem dX5_isFree_57 : decode cX5_isFree 57 = .ok (.aload_n 0, 1) := by decide +kernel
theorem dX5_isFree_58 : decode cX5_isFree 58 = .ok (.getfield 34, 3) := by decide +kernel
theorem dX5_isFree_61 : decode cX5_isFree 61 = .ok (.iload_n 1, 1) := by decide +kernel
theorem dX5_isFree_62 : decode cX5_isFree 62 = .ok (.iaload, 1) := by decide +kernel
theorem dX5_isFree_63 : decode cX5_isFree 63 = .ok (.aload_n 0, 1) := by decide +kernel
theorem dX5_isFree_64 : decode cX5_isFree 64 = .ok (.getfield 37, 3) := by decide +kernel
theorem dX5_isFree_67 : decode cX5_isFree 67 = .ok (.iload_n 3, 1) := by decide +kernel
theorem dX5_isFree_68 : decode cX5_isFree 68 = .ok (.iaload, 1) := by decide +kernel
theorem dX5_isFree_69 : decode cX5_isFree 69 = .ok (.aload_n 0, 1) := by decide +kernel
theorem dX5_isFree_70 : decode cX5_isFree 70 = .ok (.getfield 34, 3) := by decide +kernel
theorem dX5_isFree_73 : decode cX5_isFree 73 = .ok (.iload_n 3, 1) := by decide +kernel
theorem dX5_isFree_74 : decode cX5_isFree 74 = .ok (.iaload, 1) := by decide +kernel
theorem dX5_isFree_75 : decode cX5_isFree 75 = .ok (.invokestatic 133, 3) := by decide +kernel
theorem dX5_isFree_78 : decode cX5_isFree 78 = .ok (.ifCond .ne 7, 3) := by decide +kernel
theorem dX5_isFree_81 : decode cX5_isFree 81 = .ok (.iconst 1, 1) := by decide +kernel
theorem dX5_isFree_82 : decode cX5_isFree 82 = .ok (.goto 4, 3) := by decide +kernel
theorem dX5_isFree_85 : decode cX5_isFree 85 = .ok (.iconst 0, 1) := by decide +kernel
theorem dX5_isFree_86 : decode cX5_isFree 86 = .ok (.istore_n 2, 1) := by decide +kernel
theorem dX5_isFree_87 : decode cX5_isFree 87 = .ok (.iinc 3 1, 3) := by decide +kernel
theorem dX5_isFree_90 : decode cX5_isFree 90 = .ok (.goto (-86), 3) := by decide +kernel
theorem dX5_isFree_93 : decode cX5_isFree 93 = .ok (.iload_n 2, 1) := by decide +kernel
theorem dX5_isFree_94 : decode cX5_isFree 94 = .ok (.ireturn, 1) := by decide +kernel
theorem dX5_shortest_0 : decode cX5_shortest 0 = .ok (.iconst (-1), 1) := by decide +kernel
theorem dX5_shortest_1 : decode cX5_shortest 1 = .ok (.istore_n 1, 1) := by decide +kernel
theorem dX5_shortest_2 : decode cX5_shortest 2 = .ok (.iconst 0, 1) := by decide +kernel
theorem dX5_shortest_3 : decode cX5_shortest 3 = .ok (.istore_n 2, 1) := by decide +kernel
theorem dX5_shortest_4 : decode cX5_shortest 4 = .ok (.iload_n 2, 1) := by decide +kernel
theorem dX5_shortest_5 : decode cX5_shortest 5 = .ok (.aload_n 0, 1) := by decide +kernel
theorem dX5_shortest_6 : decode cX5_shortest 6 = .ok (.getfield 88, 3) := by decide +kernel
theorem dX5_shortest_9 : decode cX5_shortest 9 = .ok (.if_icmp .ge 60, 3) := by decide +kernel
theorem dX5_shortest_12 : decode cX5_shortest 12 = .ok (.aload_n 0, 1) := by decide +kernel
theorem dX5_shortest_13 : decode cX5_shortest 13 = .ok (.getfield 43, 3) := by decide +kernel
theorem dX5_shortest_16 : decode cX5_shortest 16 = .ok (.iload_n 2, 1) := by decide +kernel
theorem dX5_shortest_17 : decode cX5_shortest 17 = .ok (.iaload, 1) := by decide +kernel
theorem dX5_shortest_18 : decode cX5_shortest 18 = .ok (.iconst (-1), 1) := by decide +kernel
theorem dX5_shortest_19 : decode cX5_shortest 19 = .ok (.if_icmp .ne 44, 3) := by decide +kernel
theorem dX5_shortest_22 : decode cX5_shortest 22 = .ok (.aload_n 0, 1) := by decide +kernel
theorem dX5_shortest_23 : decode cX5_shortest 23 = .ok (.getfield 37, 3) := by decide +kernel
theorem dX5_shortest_26 : decode cX5_shortest 26 = .ok (.iload_n 2, 1) := by decide +kernel
theorem dX5_shortest_27 : decode cX5_shortest 27 = .ok (.iaload, 1) := by decide +kernel
theorem dX5_shortest_28 : decode cX5_shortest 28 = .ok (.iconst (-1), 1) := by decide +kernel
theorem dX5_shortest_29 : decode cX5_shortest 29 = .ok (.if_icmp .eq 34, 3) := by decide +kernel
theorem dX5_shortest_32 : decode cX5_shortest 32 = .ok (.aload_n 0, 1) := by decide +kernel
theorem dX5_shortest_33 : decode cX5_shortest 33 = .ok (.getfield 40, 3) := by decide +kernel
theorem dX5_shortest_36 : decode cX5_shortest 36 = .ok (.iload_n 2, 1) := by decide +kernel
theorem dX5_shortest_37 : decode cX5_shortest 37 = .ok (.iaload, 1) := by decide +kernel
theorem dX5_shortest_38 : decode cX5_shortest 38 = .ok (.ifCond .ne 25, 3) := by decide +kernel
theorem dX5_shortest_41 : decode cX5_shortest 41 = .ok (.iload_n 1, 1) := by decide +kernel
theorem dX5_shortest_42 : decode cX5_shortest 42 = .ok (.iconst (-1), 1) := by decide +kernel
theorem dX5_shortest_43 : decode cX5_shortest 43 = .ok (.if_icmp .eq 18, 3) := by decide +kernel
theorem dX5_shortest_46 : decode cX5_shortest 46 = .ok (.aload_n 0, 1) := by decide +kernel
theorem dX5_shortest_47 : decode cX5_shortest 47 = .ok (.getfield 34, 3) := by decide +kernel
theorem dX5_shortest_50 : decode cX5_shortest 50 = .ok (.iload_n 2, 1) := by decide +kernel
theorem dX5_shortest_51 : decode cX5_shortest 51 = .ok (.iaload, 1) := by decide +kernel
theorem dX5_shortest_52 : decode cX5_shortest 52 = .ok (.aload_n 0, 1) := by decide +kernel
theorem dX5_shortest_53 : decode cX5_shortest 53 = .ok (.getfield 34, 3) := by decide +kernel
theorem dX5_shortest_56 : decode cX5_shortest 56 = .ok (.iload_n 1, 1) := by decide +kernel
theorem dX5_shortest_57 : decode cX5_shortest 57 = .ok (.iaload, 1) := by decide +kernel
theorem dX5_shortest_58 : decode cX5_shortest 58 = .ok (.if_icmp .ge 5, 3) := by decide +kernel
theorem dX5_shortest_61 : decode cX5_shortest 61 = .ok (.iload_n 2, 1) := by decide +kernel
theorem dX5_shortest_62 : decode cX5_shortest 62 = .ok (.istore_n 1, 1) := by decide +kernel
theorem dX5_shortest_63 : decode cX5_shortest 63 = .ok (.iinc 2 1, 3) := by decide +kernel
theorem dX5_shortest_66 : decode cX5_shortest 66 = .ok (.goto (-62), 3) := by decide +kernel
theorem dX5_shortest_69 : decode cX5_shortest 69 = .ok (.iload_n 1, 1) := by decide +kernel
theorem dX5_shortest_70 : decode cX5_shortest 70 = .ok (.ireturn, 1) := by decide +kernel
theorem dX5_inPlace_0 : decode cX5_inPlace 0 = .ok (.aload_n 0, 1) := by decide +kernel
theorem dX5_inPlace_1 : decode cX5_inPlace 1 = .ok (.iconst 0, 1) := by decide +kernel
theorem dX5_inPlace_2 : decode cX5_inPlace 2 = .ok (.putfield 52, 3) := by decide +kernel
theorem dX5_inPlace_5 : decode cX5_inPlace 5 = .ok (.iconst 0, 1) := by decide +kernel
theorem dX5_inPlace_6 : decode cX5_inPlace 6 = .ok (.istore_n 1, 1) := by decide +kernel
theorem dX5_inPlace_7 : decode cX5_inPlace 7 = .ok (.iload_n 1, 1) := by decide +kernel
theorem dX5_inPlace_8 : decode cX5_inPlace 8 = .ok (.sipush 300, 3) := by decide +kernel
theorem dX5_inPlace_11 : decode cX5_inPlace 11 = .ok (.if_icmp .ge 33, 3) := by decide +kernel
theorem dX5_inPlace_14 : decode cX5_inPlace 14 = .ok (.aload_n 0, 1) := by decide +kernel
theorem dX5_inPlace_15 : decode cX5_inPlace 15 = .ok (.getfield 25, 3) := by decide +kernel
theorem dX5_inPlace_18 : decode cX5_inPlace 18 = .ok (.iload_n 1, 1) := by decide +kernel
theorem dX5_inPlace_19 : decode cX5_inPlace 19 = .ok (.iload_n 1, 1) := by decide +kernel
theorem dX5_inPlace_20 : decode cX5_inPlace 20 = .ok (.aload_n 0, 1) := by decide +kernel
theorem dX5_inPlace_21 : decode cX5_inPlace 21 = .ok (.getfield 101, 3) := by decide +kernel
theorem dX5_inPlace_24 : decode cX5_inPlace 24 = .ok (.if_icmp .ge 12, 3) := by decide +kernel
theorem dX5_inPlace_27 : decode cX5_inPlace 27 = .ok (.aload_n 0, 1) := by decide +kernel
theorem dX5_inPlace_28 : decode cX5_inPlace 28 = .ok (.getfield 46, 3) := by decide +kernel
theorem dX5_inPlace_31 : decode cX5_inPlace 31 = .ok (.iload_n 1, 1) := by decide +kernel
theorem dX5_inPlace_32 : decode cX5_inPlace 32 = .ok (.iaload, 1) := by decide +kernel
theorem dX5_inPlace_33 : decode cX5_inPlace 33 = .ok (.goto 4, 3) := by decide +kernel
theorem dX5_inPlace_36 : decode cX5_inPlace 36 = .ok (.iconst 0, 1) := by decide +kernel
theorem dX5_inPlace_37 : decode cX5_inPlace 37 = .ok (.iastore, 1) := by decide +kernel
theorem dX5_inPlace_38 : decode cX5_inPlace 38 = .ok (.iinc 1 1, 3) := by decide +kernel
theorem dX5_inPlace_41 : decode cX5_inPlace 41 = .ok (.goto (-34), 3) := by decide +kernel
theorem dX5_inPlace_44 : decode cX5_inPlace 44 = .ok (.iconst 0, 1) := by decide +kernel
theorem dX5_inPlace_45 : decode cX5_inPlace 45 = .ok (.istore_n 1, 1) := by decide +kernel
theorem dX5_inPlace_46 : decode cX5_inPlace 46 = .ok (.iload_n 1, 1) := by decide +kernel
theorem dX5_inPlace_47 : decode cX5_inPlace 47 = .ok (.aload_n 0, 1) := by decide +kernel
theorem dX5_inPlace_48 : decode cX5_inPlace 48 = .ok (.getfield 88, 3) := by decide +kernel
theorem dX5_inPlace_51 : decode cX5_inPlace 51 = .ok (.if_icmp .ge 23, 3) := by decide +kernel
theorem dX5_inPlace_54 : decode cX5_inPlace 54 = .ok (.aload_n 0, 1) := by decide +kernel
theorem dX5_inPlace_55 : decode cX5_inPlace 55 = .ok (.getfield 40, 3) := by decide +kernel
theorem dX5_inPlace_58 : decode cX5_inPlace 58 = .ok (.iload_n 1, 1) := by decide +kernel
theorem dX5_inPlace_59 : decode cX5_inPlace 59 = .ok (.iconst 0, 1) := by decide +kernel
theorem dX5_inPlace_60 : decode cX5_inPlace 60 = .ok (.iastore, 1) := by decide +kernel
theorem dX5_inPlace_61 : decode cX5_inPlace 61 = .ok (.aload_n 0, 1) := by decide +kernel
theorem dX5_inPlace_62 : decode cX5_inPlace 62 = .ok (.getfield 43, 3) := by decide +kernel
theorem dX5_inPlace_65 : decode cX5_inPlace 65 = .ok (.iload_n 1, 1) := by decide +kernel
theorem dX5_inPlace_66 : decode cX5_inPlace 66 = .ok (.iconst (-1), 1) := by decide +kernel
theorem dX5_inPlace_67 : decode cX5_inPlace 67 = .ok (.iastore, 1) := by decide +kernel
theorem dX5_inPlace_68 : decode cX5_inPlace 68 = .ok (.iinc 1 1, 3) := by decide +kernel
theorem dX5_inPlace_71 : decode cX5_inPlace 71 = .ok (.goto (-25), 3) := by decide +kernel
theorem dX5_inPlace_74 : decode cX5_inPlace 74 = .ok (.iconst 0, 1) := by decide +kernel
theorem dX5_inPlace_75 : decode cX5_inPlace 75 = .ok (.istore_n 1, 1) := by decide +kernel
theorem dX5_inPlace_76 : decode cX5_inPlace 76 = .ok (.iconst 0, 1) := by decide +kernel
theorem dX5_inPlace_77 : decode cX5_inPlace 77 = .ok (.istore_n 2, 1) := by decide +kernel
theorem dX5_inPlace_78 : decode cX5_inPlace 78 = .ok (.iload_n 2, 1) := by decide +kernel
theorem dX5_inPlace_79 : decode cX5_inPlace 79 = .ok (.aload_n 0, 1) := by decide +kernel
theorem dX5_inPlace_80 : decode cX5_inPlace 80 = .ok (.getfield 88, 3) := by decide +kernel
theorem dX5_inPlace_83 : decode cX5_inPlace 83 = .ok (.if_icmp .ge 156, 3) := by decide +kernel
theorem dX5_inPlace_86 : decode cX5_inPlace 86 = .ok (.iconst (-1), 1) := by decide +kernel
theorem dX5_inPlace_87 : decode cX5_inPlace 87 = .ok (.istore_n 3, 1) := by decide +kernel
theorem dX5_inPlace_88 : decode cX5_inPlace 88 = .ok (.iconst 0, 1) := by decide +kernel
theorem dX5_inPlace_89 : decode cX5_inPlace 89 = .ok (.istore 4, 2) := by decide +kernel
theorem dX5_inPlace_91 : decode cX5_inPlace 91 = .ok (.iload 4, 2) := by decide +kernel
theorem dX5_inPlace_93 : decode cX5_inPlace 93 = .ok (.aload_n 0, 1) := by decide +kernel
theorem dX5_inPlace_94 : decode cX5_inPlace 94 = .ok (.getfield 88, 3) := by decide +kernel
theorem dX5_inPlace_97 : decode cX5_inPlace 97 = .ok (.if_icmp .ge 41, 3) := by decide +kernel
theorem dX5_inPlace_100 : decode cX5_inPlace 100 = .ok (.iload_n 3, 1) := by decide +kernel
theorem dX5_inPlace_101 : decode cX5_inPlace 101 = .ok (.iconst (-1), 1) := by decide +kernel
theorem dX5_inPlace_102 : decode cX5_inPlace 102 = .ok (.if_icmp .ne 36, 3) := by decide +kernel
theorem dX5_inPlace_105 : decode cX5_inPlace 105 = .ok (.aload_n 0, 1) := by decide +kernel
theorem dX5_inPlace_106 : decode cX5_inPlace 106 = .ok (.getfield 43, 3) := by decide +kernel
theorem dX5_inPlace_109 : decode cX5_inPlace 109 = .ok (.iload 4, 2) := by decide +kernel
theorem dX5_inPlace_111 : decode cX5_inPlace 111 = .ok (.iaload, 1) := by decide +kernel
theorem dX5_inPlace_112 : decode cX5_inPlace 112 = .ok (.iconst (-1), 1) := by decide +kernel
theorem dX5_inPlace_113 : decode cX5_inPlace 113 = .ok (.if_icmp .ne 17, 3) := by decide +kernel
theorem dX5_inPlace_116 : decode cX5_inPlace 116 = .ok (.aload_n 0, 1) := by decide +kernel
theorem dX5_inPlace_117 : decode cX5_inPlace 117 = .ok (.iload 4, 2) := by decide +kernel
theorem dX5_inPlace_119 : decode cX5_inPlace 119 = .ok (.invokevirtual 137, 3) := by decide +kernel
theorem dX5_inPlace_122 : decode cX5_inPlace 122 = .ok (.ifCond .eq 8, 3) := by decide +kernel
theorem dX5_inPlace_125 : decode cX5_inPlace 125 = .ok (.iload 4, 2) := by decide +kernel
theorem dX5_inPlace_127 : decode cX5_inPlace 127 = .ok (.goto 4, 3) := by decide +kernel
theorem dX5_inPlace_130 : decode cX5_inPlace 130 = .ok (.iconst (-1), 1) := by decide +kernel
theorem dX5_inPlace_131 : decode cX5_inPlace 131 = .ok (.istore_n 3, 1) := by decide +kernel
theorem dX5_inPlace_132 : decode cX5_inPlace 132 = .ok (.iinc 4 1, 3) := by decide +kernel
theorem dX5_inPlace_135 : decode cX5_inPlace 135 = .ok (.goto (-44), 3) := by decide +kernel
theorem dX5_inPlace_138 : decode cX5_inPlace 138 = .ok (.iload_n 3, 1) := by decide +kernel
theorem dX5_inPlace_139 : decode cX5_inPlace 139 = .ok (.iconst (-1), 1) := by decide +kernel
theorem dX5_inPlace_140 : decode cX5_inPlace 140 = .ok (.if_icmp .ne 81, 3) := by decide +kernel
theorem dX5_inPlace_143 : decode cX5_inPlace 143 = .ok (.aload_n 0, 1) := by decide +kernel
theorem dX5_inPlace_144 : decode cX5_inPlace 144 = .ok (.invokevirtual 141, 3) := by decide +kernel
theorem dX5_inPlace_147 : decode cX5_inPlace 147 = .ok (.istore 4, 2) := by decide +kernel
theorem dX5_inPlace_149 : decode cX5_inPlace 149 = .ok (.aload_n 0, 1) := by decide +kernel
theorem dX5_inPlace_150 : decode cX5_inPlace 150 = .ok (.getfield 40, 3) := by decide +kernel
theorem dX5_inPlace_153 : decode cX5_inPlace 153 = .ok (.iload 4, 2) := by decide +kernel
theorem dX5_inPlace_155 : decode cX5_inPlace 155 = .ok (.iconst 1, 1) := by decide +kernel
theorem dX5_inPlace_156 : decode cX5_inPlace 156 = .ok (.iastore, 1) := by decide +kernel
theorem dX5_inPlace_157 : decode cX5_inPlace 157 = .ok (.iload_n 1, 1) := by decide +kernel
theorem dX5_inPlace_158 : decode cX5_inPlace 158 = .ok (.aload_n 0, 1) := by decide +kernel
theorem dX5_inPlace_159 : decode cX5_inPlace 159 = .ok (.getfield 34, 3) := by decide +kernel
theorem dX5_inPlace_162 : decode cX5_inPlace 162 = .ok (.iload 4, 2) := by decide +kernel
theorem dX5_inPlace_164 : decode cX5_inPlace 164 = .ok (.iaload, 1) := by decide +kernel
theorem dX5_inPlace_165 : decode cX5_inPlace 165 = .ok (.iadd, 1) := by decide +kernel
theorem dX5_inPlace_166 : decode cX5_inPlace 166 = .ok (.istore_n 1, 1) := by decide +kernel
theorem dX5_inPlace_167 : decode cX5_inPlace 167 = .ok (.iconst 0, 1) := by decide +kernel
theorem dX5_inPlace_168 : decode cX5_inPlace 168 = .ok (.istore 5, 2) := by decide +kernel
theorem dX5_inPlace_170 : decode cX5_inPlace 170 = .ok (.iload 5, 2) := by decide +kernel
theorem dX5_inPlace_172 : decode cX5_inPlace 172 = .ok (.aload_n 0, 1) := by decide +kernel
theorem dX5_inPlace_173 : decode cX5_inPlace 173 = .ok (.getfield 34, 3) := by decide +kernel
theorem dX5_inPlace_176 : decode cX5_inPlace 176 = .ok (.iload 4, 2) := by decide +kernel
theorem dX5_inPlace_178 : decode cX5_inPlace 178 = .ok (.iaload, 1) := by decide +kernel
theorem dX5_inPlace_179 : decode cX5_inPlace 179 = .ok (.if_icmp .ge 39, 3) := by decide +kernel
theorem dX5_inPlace_182 : decode cX5_inPlace 182 = .ok (.aload_n 0, 1) := by decide +kernel
theorem dX5_inPlace_183 : decode cX5_inPlace 183 = .ok (.getfield 28, 3) := by decide +kernel
theorem dX5_inPlace_186 : decode cX5_inPlace 186 = .ok (.aload_n 0, 1) := by decide +kernel
theorem dX5_inPlace_187 : decode cX5_inPlace 187 = .ok (.getfield 31, 3) := by decide +kernel
theorem dX5_inPlace_190 : decode cX5_inPlace 190 = .ok (.iload 4, 2) := by decide +kernel
theorem dX5_inPlace_192 : decode cX5_inPlace 192 = .ok (.iaload, 1) := by decide +kernel
theorem dX5_inPlace_193 : decode cX5_inPlace 193 = .ok (.iload 5, 2) := by decide +kernel
theorem dX5_inPlace_195 : decode cX5_inPlace 195 = .ok (.iadd, 1) := by decide +kernel
theorem dX5_inPlace_196 : decode cX5_inPlace 196 = .ok (.aload_n 0, 1) := by decide +kernel
theorem dX5_inPlace_197 : decode cX5_inPlace 197 = .ok (.getfield 25, 3) := by decide +kernel
theorem dX5_inPlace_200 : decode cX5_inPlace 200 = .ok (.aload_n 0, 1) := by decide +kernel
theorem dX5_inPlace_201 : decode cX5_inPlace 201 = .ok (.getfield 37, 3) := by decide +kernel
theorem dX5_inPlace_204 : decode cX5_inPlace 204 = .ok (.iload 4, 2) := by decide +kernel
theorem dX5_inPlace_206 : decode cX5_inPlace 206 = .ok (.iaload, 1) := by decide +kernel
theorem dX5_inPlace_207 : decode cX5_inPlace 207 = .ok (.iload 5, 2) := by decide +kernel
theorem dX5_inPlace_209 : decode cX5_inPlace 209 = .ok (.iadd, 1) := by decide +kernel
theorem dX5_inPlace_210 : decode cX5_inPlace 210 = .ok (.iaload, 1) := by decide +kernel
theorem dX5_inPlace_211 : decode cX5_inPlace 211 = .ok (.iastore, 1) := by decide +kernel
theorem dX5_inPlace_212 : decode cX5_inPlace 212 = .ok (.iinc 5 1, 3) := by decide +kernel
theorem dX5_inPlace_215 : decode cX5_inPlace 215 = .ok (.goto (-45), 3) := by decide +kernel
theorem dX5_inPlace_218 : decode cX5_inPlace 218 = .ok (.goto (-140), 3) := by decide +kernel
theorem dX5_inPlace_221 : decode cX5_inPlace 221 = .ok (.aload_n 0, 1) := by decide +kernel
theorem dX5_inPlace_222 : decode cX5_inPlace 222 = .ok (.getfield 43, 3) := by decide +kernel
theorem dX5_inPlace_225 : decode cX5_inPlace 225 = .ok (.iload_n 3, 1) := by decide +kernel
theorem dX5_inPlace_226 : decode cX5_inPlace 226 = .ok (.iload_n 2, 1) := by decide +kernel
theorem dX5_inPlace_227 : decode cX5_inPlace 227 = .ok (.iastore, 1) := by decide +kernel
theorem dX5_inPlace_228 : decode cX5_inPlace 228 = .ok (.iinc 2 1, 3) := by decide +kernel
theorem dX5_inPlace_231 : decode cX5_inPlace 231 = .ok (.aload_n 0, 1) := by decide +kernel
theorem dX5_inPlace_232 : decode cX5_inPlace 232 = .ok (.iload_n 3, 1) := by decide +kernel
theorem dX5_inPlace_233 : decode cX5_inPlace 233 = .ok (.invokevirtual 144, 3) := by decide +kernel
theorem dX5_inPlace_236 : decode cX5_inPlace 236 = .ok (.goto (-158), 3) := by decide +kernel
theorem dX5_inPlace_239 : decode cX5_inPlace 239 = .ok (.aload_n 0, 1) := by decide +kernel
theorem dX5_inPlace_240 : decode cX5_inPlace 240 = .ok (.aload_n 0, 1) := by decide +kernel
theorem dX5_inPlace_241 : decode cX5_inPlace 241 = .ok (.getfield 104, 3) := by decide +kernel
theorem dX5_inPlace_244 : decode cX5_inPlace 244 = .ok (.putfield 73, 3) := by decide +kernel
theorem dX5_inPlace_247 : decode cX5_inPlace 247 = .ok (.iload_n 1, 1) := by decide +kernel
theorem dX5_inPlace_248 : decode cX5_inPlace 248 = .ok (.ireturn, 1) := by decide +kernel
theorem dX5_write_0 : decode cX5_write 0 = .ok (.iconst 0, 1) := by decide +kernel
theorem dX5_write_1 : decode cX5_write 1 = .ok (.istore_n 2, 1) := by decide +kernel
theorem dX5_write_2 : decode cX5_write 2 = .ok (.iload_n 2, 1) := by decide +kernel
theorem dX5_write_3 : decode cX5_write 3 = .ok (.aload_n 0, 1) := by decide +kernel
theorem dX5_write_4 : decode cX5_write 4 = .ok (.getfield 34, 3) := by decide +kernel
theorem dX5_write_7 : decode cX5_write 7 = .ok (.iload_n 1, 1) := by decide +kernel
theorem dX5_write_8 : decode cX5_write 8 = .ok (.iaload, 1) := by decide +kernel
theorem dX5_write_9 : decode cX5_write 9 = .ok (.if_icmp .ge 70, 3) := by decide +kernel
theorem dX5_write_12 : decode cX5_write 12 = .ok (.aload_n 0, 1) := by decide +kernel
theorem dX5_write_13 : decode cX5_write 13 = .ok (.getfield 40, 3) := by decide +kernel
theorem dX5_write_16 : decode cX5_write 16 = .ok (.iload_n 1, 1) := by decide +kernel
theorem dX5_write_17 : decode cX5_write 17 = .ok (.iaload, 1) := by decide +kernel
theorem dX5_write_18 : decode cX5_write 18 = .ok (.ifCond .ne 55, 3) := by decide +kernel
theorem dX5_write_21 : decode cX5_write 21 = .ok (.aload_n 0, 1) := by decide +kernel
theorem dX5_write_22 : decode cX5_write 22 = .ok (.getfield 28, 3) := by decide +kernel
theorem dX5_write_25 : decode cX5_write 25 = .ok (.aload_n 0, 1) := by decide +kernel
theorem dX5_write_26 : decode cX5_write 26 = .ok (.getfield 31, 3) := by decide +kernel
theorem dX5_write_29 : decode cX5_write 29 = .ok (.iload_n 1, 1) := by decide +kernel
theorem dX5_write_30 : decode cX5_write 30 = .ok (.iaload, 1) := by decide +kernel
theorem dX5_write_31 : decode cX5_write 31 = .ok (.iload_n 2, 1) := by decide +kernel
theorem dX5_write_32 : decode cX5_write 32 = .ok (.iadd, 1) := by decide +kernel
theorem dX5_write_33 : decode cX5_write 33 = .ok (.aload_n 0, 1) := by decide +kernel
theorem dX5_write_34 : decode cX5_write 34 = .ok (.getfield 37, 3) := by decide +kernel
theorem dX5_write_37 : decode cX5_write 37 = .ok (.iload_n 1, 1) := by decide +kernel
theorem dX5_write_38 : decode cX5_write 38 = .ok (.iaload, 1) := by decide +kernel
theorem dX5_write_39 : decode cX5_write 39 = .ok (.iconst (-1), 1) := by decide +kernel
theorem dX5_write_40 : decode cX5_write 40 = .ok (.if_icmp .ne 19, 3) := by decide +kernel
theorem dX5_write_43 : decode cX5_write 43 = .ok (.aload_n 0, 1) := by decide +kernel
theorem dX5_write_44 : decode cX5_write 44 = .ok (.getfield 49, 3) := by decide +kernel
theorem dX5_write_47 : decode cX5_write 47 = .ok (.aload_n 0, 1) := by decide +kernel
theorem dX5_write_48 : decode cX5_write 48 = .ok (.getfield 31, 3) := by decide +kernel
theorem dX5_write_51 : decode cX5_write 51 = .ok (.iload_n 1, 1) := by decide +kernel
theorem dX5_write_52 : decode cX5_write 52 = .ok (.iaload, 1) := by decide +kernel
theorem dX5_write_53 : decode cX5_write 53 = .ok (.iload_n 2, 1) := by decide +kernel
theorem dX5_write_54 : decode cX5_write 54 = .ok (.iadd, 1) := by decide +kernel
theorem dX5_write_55 : decode cX5_write 55 = .ok (.iaload, 1) := by decide +kernel
theorem dX5_write_56 : decode cX5_write 56 = .ok (.goto 16, 3) := by decide +kernel
theorem dX5_write_59 : decode cX5_write 59 = .ok (.aload_n 0, 1) := by decide +kernel
theorem dX5_write_60 : decode cX5_write 60 = .ok (.getfield 25, 3) := by decide +kernel
theorem dX5_write_63 : decode cX5_write 63 = .ok (.aload_n 0, 1) := by decide +kernel
theorem dX5_write_64 : decode cX5_write 64 = .ok (.getfield 37, 3) := by decide +kernel
theorem dX5_write_67 : decode cX5_write 67 = .ok (.iload_n 1, 1) := by decide +kernel
theorem dX5_write_68 : decode cX5_write 68 = .ok (.iaload, 1) := by decide +kernel
theorem dX5_write_69 : decode cX5_write 69 = .ok (.iload_n 2, 1) := by decide +kernel
theorem dX5_write_70 : decode cX5_write 70 = .ok (.iadd, 1) := by decide +kernel
theorem dX5_write_71 : decode cX5_write 71 = .ok (.iaload, 1) := by decide +kernel
theorem dX5_write_72 : decode cX5_write 72 = .ok (.iastore, 1) := by decide +kernel
theorem dX5_write_73 : decode cX5_write 73 = .ok (.iinc 2 1, 3) := by decide +kernel
theorem dX5_write_76 : decode cX5_write 76 = .ok (.goto (-74), 3) := by decide +kernel
theorem dX5_write_79 : decode cX5_write 79 = .ok (.iconst 0, 1) := by decide +kernel
theorem dX5_write_80 : decode cX5_write 80 = .ok (.istore_n 2, 1) := by decide +kernel
theorem dX5_write_81 : decode cX5_write 81 = .ok (.iload_n 2, 1) := by decide +kernel
theorem dX5_write_82 : decode cX5_write 82 = .ok (.aload_n 0, 1) := by decide +kernel
theorem dX5_write_83 : decode cX5_write 83 = .ok (.getfield 34, 3) := by decide +kernel
theorem dX5_write_86 : decode cX5_write 86 = .ok (.iload_n 1, 1) := by decide +kernel
theorem dX5_write_87 : decode cX5_write 87 = .ok (.iaload, 1) := by decide +kernel
theorem dX5_write_88 : decode cX5_write 88 = .ok (.if_icmp .ge 35, 3) := by decide +kernel
theorem dX5_write_91 : decode cX5_write 91 = .ok (.aload_n 0, 1) := by decide +kernel
theorem dX5_write_92 : decode cX5_write 92 = .ok (.getfield 25, 3) := by decide +kernel
theorem dX5_write_95 : decode cX5_write 95 = .ok (.aload_n 0, 1) := by decide +kernel
theorem dX5_write_96 : decode cX5_write 96 = .ok (.getfield 31, 3) := by decide +kernel
theorem dX5_write_99 : decode cX5_write 99 = .ok (.iload_n 1, 1) := by decide +kernel
theorem dX5_write_100 : decode cX5_write 100 = .ok (.iaload, 1) := by decide +kernel
theorem dX5_write_101 : decode cX5_write 101 = .ok (.iload_n 2, 1) := by decide +kernel
theorem dX5_write_102 : decode cX5_write 102 = .ok (.iadd, 1) := by decide +kernel
theorem dX5_write_103 : decode cX5_write 103 = .ok (.aload_n 0, 1) := by decide +kernel
theorem dX5_write_104 : decode cX5_write 104 = .ok (.getfield 28, 3) := by decide +kernel
theorem dX5_write_107 : decode cX5_write 107 = .ok (.aload_n 0, 1) := by decide +kernel
theorem dX5_write_108 : decode cX5_write 108 = .ok (.getfield 31, 3) := by decide +kernel
theorem dX5_write_111 : decode cX5_write 111 = .ok (.iload_n 1, 1) := by decide +kernel
theorem dX5_write_112 : decode cX5_write 112 = .ok (.iaload, 1) := by decide +kernel
theorem dX5_write_113 : decode cX5_write 113 = .ok (.iload_n 2, 1) := by decide +kernel
theorem dX5_write_114 : decode cX5_write 114 = .ok (.iadd, 1) := by decide +kernel
theorem dX5_write_115 : decode cX5_write 115 = .ok (.iaload, 1) := by decide +kernel
theorem dX5_write_116 : decode cX5_write 116 = .ok (.iastore, 1) := by decide +kernel
theorem dX5_write_117 : decode cX5_write 117 = .ok (.iinc 2 1, 3) := by decide +kernel
theorem dX5_write_120 : decode cX5_write 120 = .ok (.goto (-39), 3) := by decide +kernel
theorem dX5_write_123 : decode cX5_write 123 = .ok (.return_, 1) := by decide +kernel
