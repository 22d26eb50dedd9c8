theorem dX4_list_78 : decode cX4_list 78 = .ok (.iload_n 1, 1) := by decide +kernel
theorem dX4_list_79 : decode cX4_list 79 = .ok (.iaload, 1) := by decide +kernel
theorem dX4_list_80 : decode cX4_list 80 = .ok (.bipush 8, 2) := by decide +kernel
theorem dX4_list_82 : decode cX4_list 82 = .ok (.if_icmp .le 9, 3) := by decide +kernel
theorem dX4_list_85 : decode cX4_list 85 = .ok (.iinc 1 (-1), 3) := by decide +kernel
theorem dX4_list_88 : decode cX4_list 88 = .ok (.goto (-49), 3) := by decide +kernel
theorem dX4_list_91 : decode cX4_list 91 = .ok (.aload_n 0, 1) := by decide +kernel
theorem dX4_list_92 : decode cX4_list 92 = .ok (.iload_n 1, 1) := by decide +kernel
theorem dX4_list_93 : decode cX4_list 93 = .ok (.invokevirtual 176, 3) := by decide +kernel
theorem dX4_list_96 : decode cX4_list 96 = .ok (.ifCond .eq (-57), 3) := by decide +kernel
theorem dX4_list_99 : decode cX4_list 99 = .ok (.iload_n 1, 1) := by decide +kernel
theorem dX4_list_100 : decode cX4_list 100 = .ok (.aload_n 0, 1) := by decide +kernel
theorem dX4_list_101 : decode cX4_list 101 = .ok (.getfield 13, 3) := by decide +kernel
theorem dX4_list_104 : decode cX4_list 104 = .ok (.iconst 1, 1) := by decide +kernel
theorem dX4_list_105 : decode cX4_list 105 = .ok (.isub, 1) := by decide +kernel
theorem dX4_list_106 : decode cX4_list 106 = .ok (.if_icmp .ne 10, 3) := by decide +kernel
theorem dX4_list_109 : decode cX4_list 109 = .ok (.aload_n 0, 1) := by decide +kernel
theorem dX4_list_110 : decode cX4_list 110 = .ok (.invokevirtual 179, 3) := by decide +kernel
theorem dX4_list_113 : decode cX4_list 113 = .ok (.goto (-74), 3) := by decide +kernel
theorem dX4_list_116 : decode cX4_list 116 = .ok (.iinc 1 1, 3) := by decide +kernel
theorem dX4_list_119 : decode cX4_list 119 = .ok (.aload_n 0, 1) := by decide +kernel
theorem dX4_list_120 : decode cX4_list 120 = .ok (.getfield 38, 3) := by decide +kernel
theorem dX4_list_123 : decode cX4_list 123 = .ok (.iload_n 1, 1) := by decide +kernel
theorem dX4_list_124 : decode cX4_list 124 = .ok (.iconst (-1), 1) := by decide +kernel
theorem dX4_list_125 : decode cX4_list 125 = .ok (.iastore, 1) := by decide +kernel
theorem dX4_list_126 : decode cX4_list 126 = .ok (.goto (-87), 3) := by decide +kernel
theorem dX4_list_129 : decode cX4_list 129 = .ok (.return_, 1) := by decide +kernel
theorem dX4_keep_0 : decode cX4_keep 0 = .ok (.iconst 0, 1) := by decide +kernel
theorem dX4_keep_1 : decode cX4_keep 1 = .ok (.istore_n 1, 1) := by decide +kernel
theorem dX4_keep_2 : decode cX4_keep 2 = .ok (.iload_n 1, 1) := by decide +kernel
theorem dX4_keep_3 : decode cX4_keep 3 = .ok (.bipush 8, 2) := by decide +kernel
theorem dX4_keep_5 : decode cX4_keep 5 = .ok (.if_icmp .ge 42, 3) := by decide +kernel
theorem dX4_keep_8 : decode cX4_keep 8 = .ok (.aload_n 0, 1) := by decide +kernel
theorem dX4_keep_9 : decode cX4_keep 9 = .ok (.getfield 54, 3) := by decide +kernel
theorem dX4_keep_12 : decode cX4_keep 12 = .ok (.bipush 8, 2) := by decide +kernel
theorem dX4_keep_14 : decode cX4_keep 14 = .ok (.aload_n 0, 1) := by decide +kernel
theorem dX4_keep_15 : decode cX4_keep 15 = .ok (.getfield 173, 3) := by decide +kernel
theorem dX4_keep_18 : decode cX4_keep 18 = .ok (.imul, 1) := by decide +kernel
theorem dX4_keep_19 : decode cX4_keep 19 = .ok (.iload_n 1, 1) := by decide +kernel
theorem dX4_keep_20 : decode cX4_keep 20 = .ok (.iadd, 1) := by decide +kernel
theorem dX4_keep_21 : decode cX4_keep 21 = .ok (.iload_n 1, 1) := by decide +kernel
theorem dX4_keep_22 : decode cX4_keep 22 = .ok (.aload_n 0, 1) := by decide +kernel
theorem dX4_keep_23 : decode cX4_keep 23 = .ok (.getfield 13, 3) := by decide +kernel
theorem dX4_keep_26 : decode cX4_keep 26 = .ok (.if_icmp .ge 12, 3) := by decide +kernel
theorem dX4_keep_29 : decode cX4_keep 29 = .ok (.aload_n 0, 1) := by decide +kernel
theorem dX4_keep_30 : decode cX4_keep 30 = .ok (.getfield 38, 3) := by decide +kernel
theorem dX4_keep_33 : decode cX4_keep 33 = .ok (.iload_n 1, 1) := by decide +kernel
theorem dX4_keep_34 : decode cX4_keep 34 = .ok (.iaload, 1) := by decide +kernel
theorem dX4_keep_35 : decode cX4_keep 35 = .ok (.goto 5, 3) := by decide +kernel
theorem dX4_keep_38 : decode cX4_keep 38 = .ok (.bipush 8, 2) := by decide +kernel
theorem dX4_keep_40 : decode cX4_keep 40 = .ok (.iastore, 1) := by decide +kernel
theorem dX4_keep_41 : decode cX4_keep 41 = .ok (.iinc 1 1, 3) := by decide +kernel
theorem dX4_keep_44 : decode cX4_keep 44 = .ok (.goto (-42), 3) := by decide +kernel
theorem dX4_keep_47 : decode cX4_keep 47 = .ok (.aload_n 0, 1) := by decide +kernel
theorem dX4_keep_48 : decode cX4_keep 48 = .ok (.dup, 1) := by decide +kernel
theorem dX4_keep_49 : decode cX4_keep 49 = .ok (.getfield 173, 3) := by decide +kernel
theorem dX4_keep_52 : decode cX4_keep 52 = .ok (.iconst 1, 1) := by decide +kernel
theorem dX4_keep_53 : decode cX4_keep 53 = .ok (.iadd, 1) := by decide +kernel
theorem dX4_keep_54 : decode cX4_keep 54 = .ok (.putfield 173, 3) := by decide +kernel
theorem dX4_keep_57 : decode cX4_keep 57 = .ok (.return_, 1) := by decide +kernel
theorem dX4_draws_0 : decode cX4_draws 0 = .ok (.aload_n 0, 1) := by decide +kernel
theorem dX4_draws_1 : decode cX4_draws 1 = .ok (.invokevirtual 182, 3) := by decide +kernel
theorem dX4_draws_4 : decode cX4_draws 4 = .ok (.aload_n 0, 1) := by decide +kernel
theorem dX4_draws_5 : decode cX4_draws 5 = .ok (.getfield 173, 3) := by decide +kernel
theorem dX4_draws_8 : decode cX4_draws 8 = .ok (.ireturn, 1) := by decide +kernel
theorem dX4_isDraw_0 : decode cX4_isDraw 0 = .ok (.aload_n 0, 1) := by decide +kernel
theorem dX4_isDraw_1 : decode cX4_isDraw 1 = .ok (.invokevirtual 182, 3) := by decide +kernel
theorem dX4_isDraw_4 : decode cX4_isDraw 4 = .ok (.iload_n 1, 1) := by decide +kernel
theorem dX4_isDraw_5 : decode cX4_isDraw 5 = .ok (.i2l, 1) := by decide +kernel
theorem dX4_isDraw_6 : decode cX4_isDraw 6 = .ok (.lconst 0, 1) := by decide +kernel
theorem dX4_isDraw_7 : decode cX4_isDraw 7 = .ok (.aload_n 0, 1) := by decide +kernel
theorem dX4_isDraw_8 : decode cX4_isDraw 8 = .ok (.getfield 173, 3) := by decide +kernel
theorem dX4_isDraw_11 : decode cX4_isDraw 11 = .ok (.iconst 1, 1) := by decide +kernel
theorem dX4_isDraw_12 : decode cX4_isDraw 12 = .ok (.isub, 1) := by decide +kernel
theorem dX4_isDraw_13 : decode cX4_isDraw 13 = .ok (.i2l, 1) := by decide +kernel
theorem dX4_isDraw_14 : decode cX4_isDraw 14 = .ok (.invokestatic 60, 3) := by decide +kernel
theorem dX4_isDraw_17 : decode cX4_isDraw 17 = .ok (.ireturn, 1) := by decide +kernel
theorem dX4_draw_0 : decode cX4_draw 0 = .ok (.aload_n 0, 1) := by decide +kernel
theorem dX4_draw_1 : decode cX4_draw 1 = .ok (.iload_n 1, 1) := by decide +kernel
theorem dX4_draw_2 : decode cX4_draw 2 = .ok (.invokevirtual 185, 3) := by decide +kernel
theorem dX4_draw_5 : decode cX4_draw 5 = .ok (.ifCond .eq 11, 3) := by decide +kernel
theorem dX4_draw_8 : decode cX4_draw 8 = .ok (.aload_n 0, 1) := by decide +kernel
theorem dX4_draw_9 : decode cX4_draw 9 = .ok (.iload_n 2, 1) := by decide +kernel
theorem dX4_draw_10 : decode cX4_draw 10 = .ok (.invokevirtual 94, 3) := by decide +kernel
theorem dX4_draw_13 : decode cX4_draw 13 = .ok (.ifCond .ne 5, 3) := by decide +kernel
theorem dX4_draw_16 : decode cX4_draw 16 = .ok (.iconst (-1), 1) := by decide +kernel
theorem dX4_draw_17 : decode cX4_draw 17 = .ok (.ireturn, 1) := by decide +kernel
theorem dX4_draw_18 : decode cX4_draw 18 = .ok (.aload_n 0, 1) := by decide +kernel
theorem dX4_draw_19 : decode cX4_draw 19 = .ok (.getfield 54, 3) := by decide +kernel
theorem dX4_draw_22 : decode cX4_draw 22 = .ok (.bipush 8, 2) := by decide +kernel
theorem dX4_draw_24 : decode cX4_draw 24 = .ok (.iload_n 1, 1) := by decide +kernel
theorem dX4_draw_25 : decode cX4_draw 25 = .ok (.imul, 1) := by decide +kernel
theorem dX4_draw_26 : decode cX4_draw 26 = .ok (.iload_n 2, 1) := by decide +kernel
theorem dX4_draw_27 : decode cX4_draw 27 = .ok (.iadd, 1) := by decide +kernel
theorem dX4_draw_28 : decode cX4_draw 28 = .ok (.iaload, 1) := by decide +kernel
theorem dX4_draw_29 : decode cX4_draw 29 = .ok (.bipush 8, 2) := by decide +kernel
theorem dX4_draw_31 : decode cX4_draw 31 = .ok (.if_icmp .ne 8, 3) := by decide +kernel
theorem dX4_draw_34 : decode cX4_draw 34 = .ok (.bipush (-9), 2) := by decide +kernel
theorem dX4_draw_36 : decode cX4_draw 36 = .ok (.goto 14, 3) := by decide +kernel
theorem dX4_draw_39 : decode cX4_draw 39 = .ok (.aload_n 0, 1) := by decide +kernel
theorem dX4_draw_40 : decode cX4_draw 40 = .ok (.getfield 54, 3) := by decide +kernel
theorem dX4_draw_43 : decode cX4_draw 43 = .ok (.bipush 8, 2) := by decide +kernel
theorem dX4_draw_45 : decode cX4_draw 45 = .ok (.iload_n 1, 1) := by decide +kernel
theorem dX4_draw_46 : decode cX4_draw 46 = .ok (.imul, 1) := by decide +kernel
theorem dX4_draw_47 : decode cX4_draw 47 = .ok (.iload_n 2, 1) := by decide +kernel
theorem dX4_draw_48 : decode cX4_draw 48 = .ok (.iadd, 1) := by decide +kernel
theorem dX4_draw_49 : decode cX4_draw 49 = .ok (.iaload, 1) := by decide +kernel
theorem dX4_draw_50 : decode cX4_draw 50 = .ok (.ireturn, 1) := by decide +kernel
theorem dX4_lay_0 : decode cX4_lay 0 = .ok (.aload_n 0, 1) := by decide +kernel
theorem dX4_lay_1 : decode cX4_lay 1 = .ok (.iload_n 1, 1) := by decide +kernel
theorem dX4_lay_2 : decode cX4_lay 2 = .ok (.invokevirtual 185, 3) := by decide +kernel
theorem dX4_lay_5 : decode cX4_lay 5 = .ok (.ifCond .ne 5, 3) := by decide +kernel
theorem dX4_lay_8 : decode cX4_lay 8 = .ok (.iconst (-1), 1) := by decide +kernel
theorem dX4_lay_9 : decode cX4_lay 9 = .ok (.ireturn, 1) := by decide +kernel
theorem dX4_lay_10 : decode cX4_lay 10 = .ok (.iconst 0, 1) := by decide +kernel
theorem dX4_lay_11 : decode cX4_lay 11 = .ok (.istore_n 2, 1) := by decide +kernel
theorem dX4_lay_12 : decode cX4_lay 12 = .ok (.iload_n 2, 1) := by decide +kernel
theorem dX4_lay_13 : decode cX4_lay 13 = .ok (.bipush 8, 2) := by decide +kernel
theorem dX4_lay_15 : decode cX4_lay 15 = .ok (.if_icmp .ge 26, 3) := by decide +kernel
theorem dX4_lay_18 : decode cX4_lay 18 = .ok (.aload_n 0, 1) := by decide +kernel
theorem dX4_lay_19 : decode cX4_lay 19 = .ok (.getfield 23, 3) := by decide +kernel
theorem dX4_lay_22 : decode cX4_lay 22 = .ok (.iload_n 2, 1) := by decide +kernel
theorem dX4_lay_23 : decode cX4_lay 23 = .ok (.aload_n 0, 1) := by decide +kernel
theorem dX4_lay_24 : decode cX4_lay 24 = .ok (.getfield 54, 3) := by decide +kernel
theorem dX4_lay_27 : decode cX4_lay 27 = .ok (.bipush 8, 2) := by decide +kernel
theorem dX4_lay_29 : decode cX4_lay 29 = .ok (.iload_n 1, 1) := by decide +kernel
theorem dX4_lay_30 : decode cX4_lay 30 = .ok (.imul, 1) := by decide +kernel
theorem dX4_lay_31 : decode cX4_lay 31 = .ok (.iload_n 2, 1) := by decide +kernel
theorem dX4_lay_32 : decode cX4_lay 32 = .ok (.iadd, 1) := by decide +kernel
theorem dX4_lay_33 : decode cX4_lay 33 = .ok (.iaload, 1) := by decide +kernel
theorem dX4_lay_34 : decode cX4_lay 34 = .ok (.iastore, 1) := by decide +kernel
theorem dX4_lay_35 : decode cX4_lay 35 = .ok (.iinc 2 1, 3) := by decide +kernel
theorem dX4_lay_38 : decode cX4_lay 38 = .ok (.goto (-26), 3) := by decide +kernel
theorem dX4_lay_41 : decode cX4_lay 41 = .ok (.aload_n 0, 1) := by decide +kernel
theorem dX4_lay_42 : decode cX4_lay 42 = .ok (.invokevirtual 71, 3) := by decide +kernel
theorem dX4_lay_45 : decode cX4_lay 45 = .ok (.iconst 1, 1) := by decide +kernel
theorem dX4_lay_46 : decode cX4_lay 46 = .ok (.ireturn, 1) := by decide +kernel
theorem dX4_like_0 : decode cX4_like 0 = .ok (.aload_n 0, 1) := by decide +kernel
theorem dX4_like_1 : decode cX4_like 1 = .ok (.invokevirtual 182, 3) := by decide +kernel
theorem dX4_like_4 : decode cX4_like 4 = .ok (.iconst 0, 1) := by decide +kernel
theorem dX4_like_5 : decode cX4_like 5 = .ok (.istore_n 1, 1) := by decide +kernel
theorem dX4_like_6 : decode cX4_like 6 = .ok (.aload_n 0, 1) := by decide +kernel
theorem dX4_like_7 : decode cX4_like 7 = .ok (.invokevirtual 151, 3) := by decide +kernel
theorem dX4_like_10 : decode cX4_like 10 = .ok (.iconst 0, 1) := by decide +kernel
theorem dX4_like_11 : decode cX4_like 11 = .ok (.istore_n 2, 1) := by decide +kernel
theorem dX4_like_12 : decode cX4_like 12 = .ok (.iload_n 2, 1) := by decide +kernel
theorem dX4_like_13 : decode cX4_like 13 = .ok (.aload_n 0, 1) := by decide +kernel
theorem dX4_like_14 : decode cX4_like 14 = .ok (.getfield 13, 3) := by decide +kernel
theorem dX4_like_17 : decode cX4_like 17 = .ok (.if_icmp .ge 28, 3) := by decide +kernel
theorem dX4_like_20 : decode cX4_like 20 = .ok (.iload_n 1, 1) := by decide +kernel
theorem dX4_like_21 : decode cX4_like 21 = .ok (.aload_n 0, 1) := by decide +kernel
theorem dX4_like_22 : decode cX4_like 22 = .ok (.getfield 38, 3) := by decide +kernel
theorem dX4_like_25 : decode cX4_like 25 = .ok (.iload_n 2, 1) := by decide +kernel
theorem dX4_like_26 : decode cX4_like 26 = .ok (.iaload, 1) := by decide +kernel
theorem dX4_like_27 : decode cX4_like 27 = .ok (.bipush 8, 2) := by decide +kernel
theorem dX4_like_29 : decode cX4_like 29 = .ok (.if_icmp .ne 7, 3) := by decide +kernel
theorem dX4_like_32 : decode cX4_like 32 = .ok (.iconst 0, 1) := by decide +kernel
theorem dX4_like_33 : decode cX4_like 33 = .ok (.goto 4, 3) := by decide +kernel
theorem dX4_like_36 : decode cX4_like 36 = .ok (.iconst 1, 1) := by decide +kernel
theorem dX4_like_37 : decode cX4_like 37 = .ok (.iadd, 1) := by decide +kernel
theorem dX4_like_38 : decode cX4_like 38 = .ok (.istore_n 1, 1) := by decide +kernel
theorem dX4_like_39 : decode cX4_like 39 = .ok (.iinc 2 1, 3) := by decide +kernel
theorem dX4_like_42 : decode cX4_like 42 = .ok (.goto (-30), 3) := by decide +kernel
theorem dX4_like_45 : decode cX4_like 45 = .ok (.iload_n 1, 1) := by decide +kernel
theorem dX4_like_46 : decode cX4_like 46 = .ok (.aload_n 0, 1) := by decide +kernel
theorem dX4_like_47 : decode cX4_like 47 = .ok (.getfield 7, 3) := by decide +kernel
theorem dX4_like_50 : decode cX4_like 50 = .ok (.if_icmp .ge 6, 3) := by decide +kernel
theorem dX4_like_53 : decode cX4_like 53 = .ok (.bipush (-9), 2) := by decide +kernel
theorem dX4_like_55 : decode cX4_like 55 = .ok (.ireturn, 1) := by decide +kernel
theorem dX4_like_56 : decode cX4_like 56 = .ok (.iconst 1, 1) := by decide +kernel
theorem dX4_like_57 : decode cX4_like 57 = .ok (.istore_n 2, 1) := by decide +kernel
theorem dX4_like_58 : decode cX4_like 58 = .ok (.iload_n 2, 1) := by decide +kernel
theorem dX4_like_59 : decode cX4_like 59 = .ok (.aload_n 0, 1) := by decide +kernel
theorem dX4_like_60 : decode cX4_like 60 = .ok (.getfield 13, 3) := by decide +kernel
theorem dX4_like_63 : decode cX4_like 63 = .ok (.if_icmp .ge 101, 3) := by decide +kernel
theorem dX4_like_66 : decode cX4_like 66 = .ok (.iconst 0, 1) := by decide +kernel
theorem dX4_like_67 : decode cX4_like 67 = .ok (.istore_n 3, 1) := by decide +kernel
theorem dX4_like_68 : decode cX4_like 68 = .ok (.iload_n 3, 1) := by decide +kernel
theorem dX4_like_69 : decode cX4_like 69 = .ok (.aload_n 0, 1) := by decide +kernel
theorem dX4_like_70 : decode cX4_like 70 = .ok (.getfield 13, 3) := by decide +kernel
theorem dX4_like_73 : decode cX4_like 73 = .ok (.if_icmp .ge 84, 3) := by decide +kernel
theorem dX4_like_76 : decode cX4_like 76 = .ok (.aload_n 0, 1) := by decide +kernel
theorem dX4_like_77 : decode cX4_like 77 = .ok (.iload_n 3, 1) := by decide +kernel
theorem dX4_like_78 : decode cX4_like 78 = .ok (.iload_n 2, 1) := by decide +kernel
theorem dX4_like_79 : decode cX4_like 79 = .ok (.invokevirtual 166, 3) := by decide +kernel
theorem dX4_like_82 : decode cX4_like 82 = .ok (.istore 4, 2) := by decide +kernel
theorem dX4_like_84 : decode cX4_like 84 = .ok (.iconst 0, 1) := by decide +kernel
theorem dX4_like_85 : decode cX4_like 85 = .ok (.istore 5, 2) := by decide +kernel
theorem dX4_like_87 : decode cX4_like 87 = .ok (.iload 5, 2) := by decide +kernel
theorem dX4_like_89 : decode cX4_like 89 = .ok (.iload_n 2, 1) := by decide +kernel
theorem dX4_like_90 : decode cX4_like 90 = .ok (.if_icmp .ge 58, 3) := by decide +kernel
theorem dX4_like_93 : decode cX4_like 93 = .ok (.iload 4, 2) := by decide +kernel
theorem dX4_like_95 : decode cX4_like 95 = .ok (.ifCond .eq 53, 3) := by decide +kernel
theorem dX4_like_98 : decode cX4_like 98 = .ok (.aload_n 0, 1) := by decide +kernel
theorem dX4_like_99 : decode cX4_like 99 = .ok (.getfield 38, 3) := by decide +kernel
theorem dX4_like_102 : decode cX4_like 102 = .ok (.iload_n 3, 1) := by decide +kernel
theorem dX4_like_103 : decode cX4_like 103 = .ok (.iload 5, 2) := by decide +kernel
theorem dX4_like_105 : decode cX4_like 105 = .ok (.iadd, 1) := by decide +kernel
theorem dX4_like_106 : decode cX4_like 106 = .ok (.iaload, 1) := by decide +kernel
theorem dX4_like_107 : decode cX4_like 107 = .ok (.istore 6, 2) := by decide +kernel
theorem dX4_like_109 : decode cX4_like 109 = .ok (.aload_n 0, 1) := by decide +kernel
theorem dX4_like_110 : decode cX4_like 110 = .ok (.getfield 38, 3) := by decide +kernel
theorem dX4_like_113 : decode cX4_like 113 = .ok (.iload_n 3, 1) := by decide +kernel
theorem dX4_like_114 : decode cX4_like 114 = .ok (.iload 5, 2) := by decide +kernel
theorem dX4_like_116 : decode cX4_like 116 = .ok (.iadd, 1) := by decide +kernel
theorem dX4_like_117 : decode cX4_like 117 = .ok (.aload_n 0, 1) := by decide +kernel
theorem dX4_like_118 : decode cX4_like 118 = .ok (.getfield 38, 3) := by decide +kernel
theorem dX4_like_121 : decode cX4_like 121 = .ok (.iload_n 3, 1) := by decide +kernel
theorem dX4_like_122 : decode cX4_like 122 = .ok (.iload_n 2, 1) := by decide +kernel
theorem dX4_like_123 : decode cX4_like 123 = .ok (.iadd, 1) := by decide +kernel
theorem dX4_like_124 : decode cX4_like 124 = .ok (.iload 5, 2) := by decide +kernel
theorem dX4_like_126 : decode cX4_like 126 = .ok (.iadd, 1) := by decide +kernel
theorem dX4_like_127 : decode cX4_like 127 = .ok (.iaload, 1) := by decide +kernel
theorem dX4_like_128 : decode cX4_like 128 = .ok (.iastore, 1) := by decide +kernel
theorem dX4_like_129 : decode cX4_like 129 = .ok (.aload_n 0, 1) := by decide +kernel
theorem dX4_like_130 : decode cX4_like 130 = .ok (.getfield 38, 3) := by decide +kernel
theorem dX4_like_133 : decode cX4_like 133 = .ok (.iload_n 3, 1) := by decide +kernel
theorem dX4_like_134 : decode cX4_like 134 = .ok (.iload_n 2, 1) := by decide +kernel
theorem dX4_like_135 : decode cX4_like 135 = .ok (.iadd, 1) := by decide +kernel
theorem dX4_like_136 : decode cX4_like 136 = .ok (.iload 5, 2) := by decide +kernel
theorem dX4_like_138 : decode cX4_like 138 = .ok (.iadd, 1) := by decide +kernel
theorem dX4_like_139 : decode cX4_like 139 = .ok (.iload 6, 2) := by decide +kernel
theorem dX4_like_141 : decode cX4_like 141 = .ok (.iastore, 1) := by decide +kernel
theorem dX4_like_142 : decode cX4_like 142 = .ok (.iinc 5 1, 3) := by decide +kernel
theorem dX4_like_145 : decode cX4_like 145 = .ok (.goto (-58), 3) := by decide +kernel
theorem dX4_like_148 : decode cX4_like 148 = .ok (.iload_n 3, 1) := by decide +kernel
theorem dX4_like_149 : decode cX4_like 149 = .ok (.iconst 2, 1) := by decide +kernel
theorem dX4_like_150 : decode cX4_like 150 = .ok (.iload_n 2, 1) := by decide +kernel
theorem dX4_like_151 : decode cX4_like 151 = .ok (.imul, 1) := by decide +kernel
theorem dX4_like_152 : decode cX4_like 152 = .ok (.iadd, 1) := by decide +kernel
theorem dX4_like_153 : decode cX4_like 153 = .ok (.istore_n 3, 1) := by decide +kernel
theorem dX4_like_154 : decode cX4_like 154 = .ok (.goto (-86), 3) := by decide +kernel
theorem dX4_like_157 : decode cX4_like 157 = .ok (.iload_n 2, 1) := by decide +kernel
theorem dX4_like_158 : decode cX4_like 158 = .ok (.iconst 2, 1) := by decide +kernel
theorem dX4_like_159 : decode cX4_like 159 = .ok (.imul, 1) := by decide +kernel
theorem dX4_like_160 : decode cX4_like 160 = .ok (.istore_n 2, 1) := by decide +kernel
theorem dX4_like_161 : decode cX4_like 161 = .ok (.goto (-103), 3) := by decide +kernel
theorem dX4_like_164 : decode cX4_like 164 = .ok (.iconst 0, 1) := by decide +kernel
theorem dX4_like_165 : decode cX4_like 165 = .ok (.istore_n 2, 1) := by decide +kernel
theorem dX4_like_166 : decode cX4_like 166 = .ok (.iload_n 2, 1) := by decide +kernel
theorem dX4_like_167 : decode cX4_like 167 = .ok (.aload_n 0, 1) := by decide +kernel
theorem dX4_like_168 : decode cX4_like 168 = .ok (.getfield 173, 3) := by decide +kernel
theorem dX4_like_171 : decode cX4_like 171 = .ok (.if_icmp .ge 67, 3) := by decide +kernel
theorem dX4_like_174 : decode cX4_like 174 = .ok (.iconst 1, 1) := by decide +kernel
theorem dX4_like_175 : decode cX4_like 175 = .ok (.istore_n 3, 1) := by decide +kernel
theorem dX4_like_176 : decode cX4_like 176 = .ok (.iconst 0, 1) := by decide +kernel
theorem dX4_like_177 : decode cX4_like 177 = .ok (.istore 4, 2) := by decide +kernel
theorem dX4_like_179 : decode cX4_like 179 = .ok (.iload 4, 2) := by decide +kernel
theorem dX4_like_181 : decode cX4_like 181 = .ok (.aload_n 0, 1) := by decide +kernel
theorem dX4_like_182 : decode cX4_like 182 = .ok (.getfield 13, 3) := by decide +kernel
theorem dX4_like_185 : decode cX4_like 185 = .ok (.if_icmp .ge 41, 3) := by decide +kernel
theorem dX4_like_188 : decode cX4_like 188 = .ok (.iload_n 3, 1) := by decide +kernel
theorem dX4_like_189 : decode cX4_like 189 = .ok (.ifCond .eq 29, 3) := by decide +kernel
theorem dX4_like_192 : decode cX4_like 192 = .ok (.aload_n 0, 1) := by decide +kernel
theorem dX4_like_193 : decode cX4_like 193 = .ok (.getfield 54, 3) := by decide +kernel
theorem dX4_like_196 : decode cX4_like 196 = .ok (.bipush 8, 2) := by decide +kernel
theorem dX4_like_198 : decode cX4_like 198 = .ok (.iload_n 2, 1) := by decide +kernel
theorem dX4_like_199 : decode cX4_like 199 = .ok (.imul, 1) := by decide +kernel
theorem dX4_like_200 : decode cX4_like 200 = .ok (.iload 4, 2) := by decide +kernel
theorem dX4_like_202 : decode cX4_like 202 = .ok (.iadd, 1) := by decide +kernel
theorem dX4_like_203 : decode cX4_like 203 = .ok (.iaload, 1) := by decide +kernel
theorem dX4_like_204 : decode cX4_like 204 = .ok (.aload_n 0, 1) := by decide +kernel
theorem dX4_like_205 : decode cX4_like 205 = .ok (.getfield 38, 3) := by decide +kernel
theorem dX4_like_208 : decode cX4_like 208 = .ok (.iload 4, 2) := by decide +kernel
theorem dX4_like_210 : decode cX4_like 210 = .ok (.iaload, 1) := by decide +kernel
theorem dX4_like_211 : decode cX4_like 211 = .ok (.if_icmp .ne 7, 3) := by decide +kernel
theorem dX4_like_214 : decode cX4_like 214 = .ok (.iconst 1, 1) := by decide +kernel
theorem dX4_like_215 : decode cX4_like 215 = .ok (.goto 4, 3) := by decide +kernel
theorem dX4_like_218 : decode cX4_like 218 = .ok (.iconst 0, 1) := by decide +kernel
theorem dX4_like_219 : decode cX4_like 219 = .ok (.istore_n 3, 1) := by decide +kernel
theorem dX4_like_220 : decode cX4_like 220 = .ok (.iinc 4 1, 3) := by decide +kernel
theorem dX4_like_223 : decode cX4_like 223 = .ok (.goto (-44), 3) := by decide +kernel
theorem dX4_like_226 : decode cX4_like 226 = .ok (.iload_n 3, 1) := by decide +kernel
theorem dX4_like_227 : decode cX4_like 227 = .ok (.ifCond .eq 5, 3) := by decide +kernel
theorem dX4_like_230 : decode cX4_like 230 = .ok (.iload_n 2, 1) := by decide +kernel
theorem dX4_like_231 : decode cX4_like 231 = .ok (.ireturn, 1) := by decide +kernel
theorem dX4_like_232 : decode cX4_like 232 = .ok (.iinc 2 1, 3) := by decide +kernel
theorem dX4_like_235 : decode cX4_like 235 = .ok (.goto (-69), 3) := by decide +kernel
theorem dX4_like_238 : decode cX4_like 238 = .ok (.bipush (-9), 2) := by decide +kernel
theorem dX4_like_240 : decode cX4_like 240 = .ok (.ireturn, 1) := by decide +kernel
theorem dX4_winsOf_0 : decode cX4_winsOf 0 = .ok (.iconst 0, 1) := by decide +kernel
theorem dX4_winsOf_1 : decode cX4_winsOf 1 = .ok (.istore_n 3, 1) := by decide +kernel
theorem dX4_winsOf_2 : decode cX4_winsOf 2 = .ok (.iload_n 3, 1) := by decide +kernel
theorem dX4_winsOf_3 : decode cX4_winsOf 3 = .ok (.bipush 8, 2) := by decide +kernel
theorem dX4_winsOf_5 : decode cX4_winsOf 5 = .ok (.if_icmp .ge 26, 3) := by decide +kernel
theorem dX4_winsOf_8 : decode cX4_winsOf 8 = .ok (.aload_n 0, 1) := by decide +kernel
theorem dX4_winsOf_9 : decode cX4_winsOf 9 = .ok (.getfield 38, 3) := by decide +kernel
theorem dX4_winsOf_12 : decode cX4_winsOf 12 = .ok (.iload_n 3, 1) := by decide +kernel
theorem dX4_winsOf_13 : decode cX4_winsOf 13 = .ok (.aload_n 0, 1) := by decide +kernel
theorem dX4_winsOf_14 : decode cX4_winsOf 14 = .ok (.getfield 54, 3) := by decide +kernel
theorem dX4_winsOf_17 : decode cX4_winsOf 17 = .ok (.bipush 8, 2) := by decide +kernel
theorem dX4_winsOf_19 : decode cX4_winsOf 19 = .ok (.iload_n 1, 1) := by decide +kernel
theorem dX4_winsOf_20 : decode cX4_winsOf 20 = .ok (.imul, 1) := by decide +kernel
theorem dX4_winsOf_21 : decode cX4_winsOf 21 = .ok (.iload_n 3, 1) := by decide +kernel
theorem dX4_winsOf_22 : decode cX4_winsOf 22 = .ok (.iadd, 1) := by decide +kernel
theorem dX4_winsOf_23 : decode cX4_winsOf 23 = .ok (.iaload, 1) := by decide +kernel
theorem dX4_winsOf_24 : decode cX4_winsOf 24 = .ok (.iastore, 1) := by decide +kernel
theorem dX4_winsOf_25 : decode cX4_winsOf 25 = .ok (.iinc 3 1, 3) := by decide +kernel
theorem dX4_winsOf_28 : decode cX4_winsOf 28 = .ok (.goto (-26), 3) := by decide +kernel
theorem dX4_winsOf_31 : decode cX4_winsOf 31 = .ok (.aload_n 0, 1) := by decide +kernel
theorem dX4_winsOf_32 : decode cX4_winsOf 32 = .ok (.iconst 0, 1) := by decide +kernel
theorem dX4_winsOf_33 : decode cX4_winsOf 33 = .ok (.invokevirtual 154, 3) := by decide +kernel
theorem dX4_winsOf_36 : decode cX4_winsOf 36 = .ok (.aload_n 0, 1) := by decide +kernel
theorem dX4_winsOf_37 : decode cX4_winsOf 37 = .ok (.getfield 41, 3) := by decide +kernel
theorem dX4_winsOf_40 : decode cX4_winsOf 40 = .ok (.bipush 8, 2) := by decide +kernel
theorem dX4_winsOf_42 : decode cX4_winsOf 42 = .ok (.aload_n 0, 1) := by decide +kernel
theorem dX4_winsOf_43 : decode cX4_winsOf 43 = .ok (.getfield 13, 3) := by decide +kernel
theorem dX4_winsOf_46 : decode cX4_winsOf 46 = .ok (.iconst 2, 1) := by decide +kernel
theorem dX4_winsOf_47 : decode cX4_winsOf 47 = .ok (.isub, 1) := by decide +kernel
theorem dX4_winsOf_48 : decode cX4_winsOf 48 = .ok (.imul, 1) := by decide +kernel
theorem dX4_winsOf_49 : decode cX4_winsOf 49 = .ok (.iload_n 2, 1) := by decide +kernel
theorem dX4_winsOf_50 : decode cX4_winsOf 50 = .ok (.iadd, 1) := by decide +kernel
theorem dX4_winsOf_51 : decode cX4_winsOf 51 = .ok (.laload, 1) := by decide +kernel
theorem dX4_winsOf_52 : decode cX4_winsOf 52 = .ok (.lreturn, 1) := by decide +kernel
theorem dX4_best_0 : decode cX4_best 0 = .ok (.aload_n 0, 1) := by decide +kernel
theorem dX4_best_1 : decode cX4_best 1 = .ok (.iload_n 1, 1) := by decide +kernel
theorem dX4_best_2 : decode cX4_best 2 = .ok (.invokevirtual 78, 3) := by decide +kernel
theorem dX4_best_5 : decode cX4_best 5 = .ok (.ifCond .ne 5, 3) := by decide +kernel
theorem dX4_best_8 : decode cX4_best 8 = .ok (.iconst (-1), 1) := by decide +kernel
theorem dX4_best_9 : decode cX4_best 9 = .ok (.ireturn, 1) := by decide +kernel
theorem dX4_best_10 : decode cX4_best 10 = .ok (.aload_n 0, 1) := by decide +kernel
theorem dX4_best_11 : decode cX4_best 11 = .ok (.invokevirtual 182, 3) := by decide +kernel
theorem dX4_best_14 : decode cX4_best 14 = .ok (.bipush (-9), 2) := by decide +kernel
theorem dX4_best_16 : decode cX4_best 16 = .ok (.istore_n 3, 1) := by decide +kernel
theorem dX4_best_17 : decode cX4_best 17 = .ok (.lconst 0, 1) := by decide +kernel
theorem dX4_best_18 : decode cX4_best 18 = .ok (.lstore 4, 2) := by decide +kernel
theorem dX4_best_20 : decode cX4_best 20 = .ok (.iconst 0, 1) := by decide +kernel
theorem dX4_best_21 : decode cX4_best 21 = .ok (.istore 6, 2) := by decide +kernel
theorem dX4_best_23 : decode cX4_best 23 = .ok (.iload 6, 2) := by decide +kernel
theorem dX4_best_25 : decode cX4_best 25 = .ok (.aload_n 0, 1) := by decide +kernel
theorem dX4_best_26 : decode cX4_best 26 = .ok (.getfield 173, 3) := by decide +kernel
theorem dX4_best_29 : decode cX4_best 29 = .ok (.if_icmp .ge 54, 3) := by decide +kernel
theorem dX4_best_32 : decode cX4_best 32 = .ok (.aload_n 0, 1) := by decide +kernel
theorem dX4_best_33 : decode cX4_best 33 = .ok (.iload 6, 2) := by decide +kernel
theorem dX4_best_35 : decode cX4_best 35 = .ok (.iload_n 1, 1) := by decide +kernel
theorem dX4_best_36 : decode cX4_best 36 = .ok (.invokevirtual 188, 3) := by decide +kernel
theorem dX4_best_39 : decode cX4_best 39 = .ok (.lstore 7, 2) := by decide +kernel
theorem dX4_best_41 : decode cX4_best 41 = .ok (.iload_n 3, 1) := by decide +kernel
theorem dX4_best_42 : decode cX4_best 42 = .ok (.bipush (-9), 2) := by decide +kernel
theorem dX4_best_44 : decode cX4_best 44 = .ok (.if_icmp .eq 26, 3) := by decide +kernel
theorem dX4_best_47 : decode cX4_best 47 = .ok (.iload_n 2, 1) := by decide +kernel
theorem dX4_best_48 : decode cX4_best 48 = .ok (.ifCond .eq 14, 3) := by decide +kernel
theorem dX4_best_51 : decode cX4_best 51 = .ok (.lload 7, 2) := by decide +kernel
theorem dX4_best_53 : decode cX4_best 53 = .ok (.lload 4, 2) := by decide +kernel
theorem dX4_best_55 : decode cX4_best 55 = .ok (.lcmp, 1) := by decide +kernel
theorem dX4_best_56 : decode cX4_best 56 = .ok (.ifCond .ge 21, 3) := by decide +kernel
theorem dX4_best_59 : decode cX4_best 59 = .ok (.goto 11, 3) := by decide +kernel
theorem dX4_best_62 : decode cX4_best 62 = .ok (.lload 7, 2) := by decide +kernel
theorem dX4_best_64 : decode cX4_best 64 = .ok (.lload 4, 2) := by decide +kernel
theorem dX4_best_66 : decode cX4_best 66 = .ok (.lcmp, 1) := by decide +kernel
theorem dX4_best_67 : decode cX4_best 67 = .ok (.ifCond .le 10, 3) := by decide +kernel
theorem dX4_best_70 : decode cX4_best 70 = .ok (.iload 6, 2) := by decide +kernel
theorem dX4_best_72 : decode cX4_best 72 = .ok (.istore_n 3, 1) := by decide +kernel
theorem dX4_best_73 : decode cX4_best 73 = .ok (.lload 7, 2) := by decide +kernel
theorem dX4_best_75 : decode cX4_best 75 = .ok (.lstore 4, 2) := by decide +kernel
theorem dX4_best_77 : decode cX4_best 77 = .ok (.iinc 6 1, 3) := by decide +kernel
theorem dX4_best_80 : decode cX4_best 80 = .ok (.goto (-57), 3) := by decide +kernel
theorem dX4_best_83 : decode cX4_best 83 = .ok (.iload_n 3, 1) := by decide +kernel
theorem dX4_best_84 : decode cX4_best 84 = .ok (.ireturn, 1) := by decide +kernel
theorem dX4_wins_0 : decode cX4_wins 0 = .ok (.aload_n 0, 1) := by decide +kernel
theorem dX4_wins_1 : decode cX4_wins 1 = .ok (.iload_n 1, 1) := by decide +kernel
theorem dX4_wins_2 : decode cX4_wins 2 = .ok (.invokevirtual 185, 3) := by decide +kernel
theorem dX4_wins_5 : decode cX4_wins 5 = .ok (.ifCond .eq 11, 3) := by decide +kernel
theorem dX4_wins_8 : decode cX4_wins 8 = .ok (.aload_n 0, 1) := by decide +kernel
theorem dX4_wins_9 : decode cX4_wins 9 = .ok (.iload_n 2, 1) := by decide +kernel
theorem dX4_wins_10 : decode cX4_wins 10 = .ok (.invokevirtual 78, 3) := by decide +kernel
theorem dX4_wins_13 : decode cX4_wins 13 = .ok (.ifCond .ne 7, 3) := by decide +kernel
theorem dX4_wins_16 : decode cX4_wins 16 = .ok (.ldc2_w 143, 3) := by decide +kernel
theorem dX4_wins_19 : decode cX4_wins 19 = .ok (.lreturn, 1) := by decide +kernel
theorem dX4_wins_20 : decode cX4_wins 20 = .ok (.aload_n 0, 1) := by decide +kernel
theorem dX4_wins_21 : decode cX4_wins 21 = .ok (.iload_n 1, 1) := by decide +kernel
theorem dX4_wins_22 : decode cX4_wins 22 = .ok (.iload_n 2, 1) := by decide +kernel
theorem dX4_wins_23 : decode cX4_wins 23 = .ok (.invokevirtual 188, 3) := by decide +kernel
theorem dX4_wins_26 : decode cX4_wins 26 = .ok (.lstore 4, 2) := by decide +kernel
theorem dX4_wins_28 : decode cX4_wins 28 = .ok (.lload 4, 2) := by decide +kernel
theorem dX4_wins_30 : decode cX4_wins 30 = .ok (.aload_n 0, 1) := by decide +kernel
theorem dX4_wins_31 : decode cX4_wins 31 = .ok (.getfield 45, 3) := by decide +kernel
theorem dX4_wins_34 : decode cX4_wins 34 = .ok (.aload_n 0, 1) := by decide +kernel
theorem dX4_wins_35 : decode cX4_wins 35 = .ok (.getfield 13, 3) := by decide +kernel
theorem dX4_wins_38 : decode cX4_wins 38 = .ok (.iconst 2, 1) := by decide +kernel
theorem dX4_wins_39 : decode cX4_wins 39 = .ok (.isub, 1) := by decide +kernel
theorem dX4_wins_40 : decode cX4_wins 40 = .ok (.laload, 1) := by decide +kernel
theorem dX4_wins_41 : decode cX4_wins 41 = .ok (.iload_n 3, 1) := by decide +kernel
theorem dX4_wins_42 : decode cX4_wins 42 = .ok (.invokestatic 147, 3) := by decide +kernel
theorem dX4_wins_45 : decode cX4_wins 45 = .ok (.lreturn, 1) := by decide +kernel
theorem dX4_mean_0 : decode cX4_mean 0 = .ok (.aload_n 0, 1) := by decide +kernel
theorem dX4_mean_1 : decode cX4_mean 1 = .ok (.iload_n 1, 1) := by decide +kernel
theorem dX4_mean_2 : decode cX4_mean 2 = .ok (.invokevirtual 78, 3) := by decide +kernel
theorem dX4_mean_5 : decode cX4_mean 5 = .ok (.ifCond .ne 7, 3) := by decide +kernel
theorem dX4_mean_8 : decode cX4_mean 8 = .ok (.ldc2_w 143, 3) := by decide +kernel
theorem dX4_mean_11 : decode cX4_mean 11 = .ok (.lreturn, 1) := by decide +kernel
theorem dX4_mean_12 : decode cX4_mean 12 = .ok (.aload_n 0, 1) := by decide +kernel
theorem dX4_mean_13 : decode cX4_mean 13 = .ok (.invokevirtual 182, 3) := by decide +kernel
theorem dX4_mean_16 : decode cX4_mean 16 = .ok (.aload_n 0, 1) := by decide +kernel
theorem dX4_mean_17 : decode cX4_mean 17 = .ok (.getfield 173, 3) := by decide +kernel
theorem dX4_mean_20 : decode cX4_mean 20 = .ok (.ifCond .ne 7, 3) := by decide +kernel
theorem dX4_mean_23 : decode cX4_mean 23 = .ok (.ldc2_w 161, 3) := by decide +kernel
theorem dX4_mean_26 : decode cX4_mean 26 = .ok (.lreturn, 1) := by decide +kernel
theorem dX4_mean_27 : decode cX4_mean 27 = .ok (.lconst 0, 1) := by decide +kernel
theorem dX4_mean_28 : decode cX4_mean 28 = .ok (.lstore_n 3, 1) := by decide +kernel
theorem dX4_mean_29 : decode cX4_mean 29 = .ok (.iconst 0, 1) := by decide +kernel
theorem dX4_mean_30 : decode cX4_mean 30 = .ok (.istore 5, 2) := by decide +kernel
theorem dX4_mean_32 : decode cX4_mean 32 = .ok (.iload 5, 2) := by decide +kernel
theorem dX4_mean_34 : decode cX4_mean 34 = .ok (.aload_n 0, 1) := by decide +kernel
theorem dX4_mean_35 : decode cX4_mean 35 = .ok (.getfield 173, 3) := by decide +kernel
theorem dX4_mean_38 : decode cX4_mean 38 = .ok (.if_icmp .ge 19, 3) := by decide +kernel
theorem dX4_mean_41 : decode cX4_mean 41 = .ok (.lload_n 3, 1) := by decide +kernel
theorem dX4_mean_42 : decode cX4_mean 42 = .ok (.aload_n 0, 1) := by decide +kernel
theorem dX4_mean_43 : decode cX4_mean 43 = .ok (.iload 5, 2) := by decide +kernel
theorem dX4_mean_45 : decode cX4_mean 45 = .ok (.iload_n 1, 1) := by decide +kernel
theorem dX4_mean_46 : decode cX4_mean 46 = .ok (.invokevirtual 188, 3) := by decide +kernel
theorem dX4_mean_49 : decode cX4_mean 49 = .ok (.ladd, 1) := by decide +kernel
theorem dX4_mean_50 : decode cX4_mean 50 = .ok (.lstore_n 3, 1) := by decide +kernel
theorem dX4_mean_51 : decode cX4_mean 51 = .ok (.iinc 5 1, 3) := by decide +kernel
theorem dX4_mean_54 : decode cX4_mean 54 = .ok (.goto (-22), 3) := by decide +kernel
theorem dX4_mean_57 : decode cX4_mean 57 = .ok (.lload_n 3, 1) := by decide +kernel
theorem dX4_mean_58 : decode cX4_mean 58 = .ok (.aload_n 0, 1) := by decide +kernel
theorem dX4_mean_59 : decode cX4_mean 59 = .ok (.getfield 173, 3) := by decide +kernel
theorem dX4_mean_62 : decode cX4_mean 62 = .ok (.i2l, 1) := by decide +kernel
theorem dX4_mean_63 : decode cX4_mean 63 = .ok (.aload_n 0, 1) := by decide +kernel
theorem dX4_mean_64 : decode cX4_mean 64 = .ok (.getfield 45, 3) := by decide +kernel
theorem dX4_mean_67 : decode cX4_mean 67 = .ok (.aload_n 0, 1) := by decide +kernel
theorem dX4_mean_68 : decode cX4_mean 68 = .ok (.getfield 13, 3) := by decide +kernel
theorem dX4_mean_71 : decode cX4_mean 71 = .ok (.iconst 2, 1) := by decide +kernel
theorem dX4_mean_72 : decode cX4_mean 72 = .ok (.isub, 1) := by decide +kernel
theorem dX4_mean_73 : decode cX4_mean 73 = .ok (.laload, 1) := by decide +kernel
theorem dX4_mean_74 : decode cX4_mean 74 = .ok (.lmul, 1) := by decide +kernel
theorem dX4_mean_75 : decode cX4_mean 75 = .ok (.iload_n 2, 1) := by decide +kernel
theorem dX4_mean_76 : decode cX4_mean 76 = .ok (.invokestatic 147, 3) := by decide +kernel
theorem dX4_mean_79 : decode cX4_mean 79 = .ok (.lreturn, 1) := by decide +kernel
theorem dX4_first_0 : decode cX4_first 0 = .ok (.aload_n 0, 1) := by decide +kernel
theorem dX4_first_1 : decode cX4_first 1 = .ok (.iload_n 1, 1) := by decide +kernel
theorem dX4_first_2 : decode cX4_first 2 = .ok (.invokevirtual 78, 3) := by decide +kernel
theorem dX4_first_5 : decode cX4_first 5 = .ok (.ifCond .eq 11, 3) := by decide +kernel
theorem dX4_first_8 : decode cX4_first 8 = .ok (.aload_n 0, 1) := by decide +kernel
theorem dX4_first_9 : decode cX4_first 9 = .ok (.iload_n 2, 1) := by decide +kernel
theorem dX4_first_10 : decode cX4_first 10 = .ok (.invokevirtual 78, 3) := by decide +kernel
theorem dX4_first_13 : decode cX4_first 13 = .ok (.ifCond .ne 5, 3) := by decide +kernel
theorem dX4_first_16 : decode cX4_first 16 = .ok (.iconst (-1), 1) := by decide +kernel
theorem dX4_first_17 : decode cX4_first 17 = .ok (.ireturn, 1) := by decide +kernel
theorem dX4_first_18 : decode cX4_first 18 = .ok (.iload_n 3, 1) := by decide +kernel
theorem dX4_first_19 : decode cX4_first 19 = .ok (.i2l, 1) := by decide +kernel
theorem dX4_first_20 : decode cX4_first 20 = .ok (.lconst 1, 1) := by decide +kernel
theorem dX4_first_21 : decode cX4_first 21 = .ok (.aload_n 0, 1) := by decide +kernel
theorem dX4_first_22 : decode cX4_first 22 = .ok (.invokevirtual 86, 3) := by decide +kernel
theorem dX4_first_25 : decode cX4_first 25 = .ok (.i2l, 1) := by decide +kernel
theorem dX4_first_26 : decode cX4_first 26 = .ok (.invokestatic 60, 3) := by decide +kernel
theorem dX4_first_29 : decode cX4_first 29 = .ok (.ifCond .ne 6, 3) := by decide +kernel
theorem dX4_first_32 : decode cX4_first 32 = .ok (.bipush (-2), 2) := by decide +kernel
theorem dX4_first_34 : decode cX4_first 34 = .ok (.ireturn, 1) := by decide +kernel
theorem dX4_first_35 : decode cX4_first 35 = .ok (.iload_n 1, 1) := by decide +kernel
theorem dX4_first_36 : decode cX4_first 36 = .ok (.iload_n 2, 1) := by decide +kernel
theorem dX4_first_37 : decode cX4_first 37 = .ok (.if_icmp .ne 6, 3) := by decide +kernel
theorem dX4_first_40 : decode cX4_first 40 = .ok (.bipush (-3), 2) := by decide +kernel
theorem dX4_first_42 : decode cX4_first 42 = .ok (.ireturn, 1) := by decide +kernel
theorem dX4_first_43 : decode cX4_first 43 = .ok (.aload_n 0, 1) := by decide +kernel
theorem dX4_first_44 : decode cX4_first 44 = .ok (.invokevirtual 182, 3) := by decide +kernel
theorem dX4_first_47 : decode cX4_first 47 = .ok (.iconst 0, 1) := by decide +kernel
theorem dX4_first_48 : decode cX4_first 48 = .ok (.istore 4, 2) := by decide +kernel
theorem dX4_first_50 : decode cX4_first 50 = .ok (.iconst 0, 1) := by decide +kernel
theorem dX4_first_51 : decode cX4_first 51 = .ok (.istore 5, 2) := by decide +kernel
theorem dX4_first_53 : decode cX4_first 53 = .ok (.iload 5, 2) := by decide +kernel
theorem dX4_first_55 : decode cX4_first 55 = .ok (.aload_n 0, 1) := by decide +kernel
theorem dX4_first_56 : decode cX4_first 56 = .ok (.getfield 173, 3) := by decide +kernel
theorem dX4_first_59 : decode cX4_first 59 = .ok (.if_icmp .ge 106, 3) := by decide +kernel
theorem dX4_first_62 : decode cX4_first 62 = .ok (.iconst 0, 1) := by decide +kernel
theorem dX4_first_63 : decode cX4_first 63 = .ok (.istore 6, 2) := by decide +kernel
theorem dX4_first_65 : decode cX4_first 65 = .ok (.iconst 0, 1) := by decide +kernel
theorem dX4_first_66 : decode cX4_first 66 = .ok (.istore 7, 2) := by decide +kernel
theorem dX4_first_68 : decode cX4_first 68 = .ok (.iconst 0, 1) := by decide +kernel
theorem dX4_first_69 : decode cX4_first 69 = .ok (.istore 8, 2) := by decide +kernel
theorem dX4_first_71 : decode cX4_first 71 = .ok (.iload 8, 2) := by decide +kernel
theorem dX4_first_73 : decode cX4_first 73 = .ok (.aload_n 0, 1) := by decide +kernel
theorem dX4_first_74 : decode cX4_first 74 = .ok (.getfield 13, 3) := by decide +kernel
theorem dX4_first_77 : decode cX4_first 77 = .ok (.if_icmp .ge 61, 3) := by decide +kernel
theorem dX4_first_80 : decode cX4_first 80 = .ok (.aload_n 0, 1) := by decide +kernel
theorem dX4_first_81 : decode cX4_first 81 = .ok (.getfield 54, 3) := by decide +kernel
theorem dX4_first_84 : decode cX4_first 84 = .ok (.bipush 8, 2) := by decide +kernel
theorem dX4_first_86 : decode cX4_first 86 = .ok (.iload 5, 2) := by decide +kernel
theorem dX4_first_88 : decode cX4_first 88 = .ok (.imul, 1) := by decide +kernel
theorem dX4_first_89 : decode cX4_first 89 = .ok (.iload 8, 2) := by decide +kernel
theorem dX4_first_91 : decode cX4_first 91 = .ok (.iadd, 1) := by decide +kernel
theorem dX4_first_92 : decode cX4_first 92 = .ok (.iaload, 1) := by decide +kernel
theorem dX4_first_93 : decode cX4_first 93 = .ok (.iload_n 1, 1) := by decide +kernel
theorem dX4_first_94 : decode cX4_first 94 = .ok (.if_icmp .ne 8, 3) := by decide +kernel
theorem dX4_first_97 : decode cX4_first 97 = .ok (.iload 8, 2) := by decide +kernel
theorem dX4_first_99 : decode cX4_first 99 = .ok (.goto 5, 3) := by decide +kernel
theorem dX4_first_102 : decode cX4_first 102 = .ok (.iload 6, 2) := by decide +kernel
theorem dX4_first_104 : decode cX4_first 104 = .ok (.istore 6, 2) := by decide +kernel
theorem dX4_first_106 : decode cX4_first 106 = .ok (.aload_n 0, 1) := by decide +kernel
theorem dX4_first_107 : decode cX4_first 107 = .ok (.getfield 54, 3) := by decide +kernel
theorem dX4_first_110 : decode cX4_first 110 = .ok (.bipush 8, 2) := by decide +kernel
theorem dX4_first_112 : decode cX4_first 112 = .ok (.iload 5, 2) := by decide +kernel
theorem dX4_first_114 : decode cX4_first 114 = .ok (.imul, 1) := by decide +kernel
theorem dX4_first_115 : decode cX4_first 115 = .ok (.iload 8, 2) := by decide +kernel
theorem dX4_first_117 : decode cX4_first 117 = .ok (.iadd, 1) := by decide +kernel
theorem dX4_first_118 : decode cX4_first 118 = .ok (.iaload, 1) := by decide +kernel
theorem dX4_first_119 : decode cX4_first 119 = .ok (.iload_n 2, 1) := by decide +kernel
theorem dX4_first_120 : decode cX4_first 120 = .ok (.if_icmp .ne 8, 3) := by decide +kernel
theorem dX4_first_123 : decode cX4_first 123 = .ok (.iload 8, 2) := by decide +kernel
theorem dX4_first_125 : decode cX4_first 125 = .ok (.goto 5, 3) := by decide +kernel
theorem dX4_first_128 : decode cX4_first 128 = .ok (.iload 7, 2) := by decide +kernel
theorem dX4_first_130 : decode cX4_first 130 = .ok (.istore 7, 2) := by decide +kernel
theorem dX4_first_132 : decode cX4_first 132 = .ok (.iinc 8 1, 3) := by decide +kernel
theorem dX4_first_135 : decode cX4_first 135 = .ok (.goto (-64), 3) := by decide +kernel
theorem dX4_first_138 : decode cX4_first 138 = .ok (.iload 4, 2) := by decide +kernel
theorem dX4_first_140 : decode cX4_first 140 = .ok (.iload 6, 2) := by decide +kernel
theorem dX4_first_142 : decode cX4_first 142 = .ok (.iload 7, 2) := by decide +kernel
theorem dX4_first_144 : decode cX4_first 144 = .ok (.invokestatic 163, 3) := by decide +kernel
theorem dX4_first_147 : decode cX4_first 147 = .ok (.iload_n 3, 1) := by decide +kernel
theorem dX4_first_148 : decode cX4_first 148 = .ok (.if_icmp .ne 7, 3) := by decide +kernel
theorem dX4_first_151 : decode cX4_first 151 = .ok (.iconst 1, 1) := by decide +kernel
theorem dX4_first_152 : decode cX4_first 152 = .ok (.goto 4, 3) := by decide +kernel
theorem dX4_first_155 : decode cX4_first 155 = .ok (.iconst 0, 1) := by decide +kernel
theorem dX4_first_156 : decode cX4_first 156 = .ok (.iadd, 1) := by decide +kernel
theorem dX4_first_157 : decode cX4_first 157 = .ok (.istore 4, 2) := by decide +kernel
theorem dX4_first_159 : decode cX4_first 159 = .ok (.iinc 5 1, 3) := by decide +kernel
theorem dX4_first_162 : decode cX4_first 162 = .ok (.goto (-109), 3) := by decide +kernel
theorem dX4_first_165 : decode cX4_first 165 = .ok (.iload 4, 2) := by decide +kernel
theorem dX4_first_167 : decode cX4_first 167 = .ok (.ireturn, 1) := by decide +kernel
theorem dX4_count_0 : decode cX4_count 0 = .ok (.iconst 0, 1) := by decide +kernel
theorem dX4_count_1 : decode cX4_count 1 = .ok (.istore_n 2, 1) := by decide +kernel
theorem dX4_count_2 : decode cX4_count 2 = .ok (.iload_n 1, 1) := by decide +kernel
theorem dX4_count_3 : decode cX4_count 3 = .ok (.tableswitch 142 0 4 #[33, 38, 43, 80, 85], 33) := by decide +kernel
theorem dX4_count_36 : decode cX4_count 36 = .ok (.aload_n 0, 1) := by decide +kernel
theorem dX4_count_37 : decode cX4_count 37 = .ok (.getfield 7, 3) := by decide +kernel
theorem dX4_count_40 : decode cX4_count 40 = .ok (.ireturn, 1) := by decide +kernel
theorem dX4_count_41 : decode cX4_count 41 = .ok (.aload_n 0, 1) := by decide +kernel
theorem dX4_count_42 : decode cX4_count 42 = .ok (.getfield 13, 3) := by decide +kernel
theorem dX4_count_45 : decode cX4_count 45 = .ok (.ireturn, 1) := by decide +kernel
theorem dX4_count_46 : decode cX4_count 46 = .ok (.iconst 0, 1) := by decide +kernel
theorem dX4_count_47 : decode cX4_count 47 = .ok (.istore_n 3, 1) := by decide +kernel
theorem dX4_count_48 : decode cX4_count 48 = .ok (.iload_n 3, 1) := by decide +kernel
theorem dX4_count_49 : decode cX4_count 49 = .ok (.aload_n 0, 1) := by decide +kernel
theorem dX4_count_50 : decode cX4_count 50 = .ok (.getfield 13, 3) := by decide +kernel
theorem dX4_count_53 : decode cX4_count 53 = .ok (.if_icmp .ge 28, 3) := by decide +kernel
theorem dX4_count_56 : decode cX4_count 56 = .ok (.iload_n 2, 1) := by decide +kernel
theorem dX4_count_57 : decode cX4_count 57 = .ok (.aload_n 0, 1) := by decide +kernel
theorem dX4_count_58 : decode cX4_count 58 = .ok (.getfield 23, 3) := by decide +kernel
theorem dX4_count_61 : decode cX4_count 61 = .ok (.iload_n 3, 1) := by decide +kernel
theorem dX4_count_62 : decode cX4_count 62 = .ok (.iaload, 1) := by decide +kernel
theorem dX4_count_63 : decode cX4_count 63 = .ok (.bipush 8, 2) := by decide +kernel
theorem dX4_count_65 : decode cX4_count 65 = .ok (.if_icmp .ne 7, 3) := by decide +kernel
theorem dX4_count_68 : decode cX4_count 68 = .ok (.iconst 0, 1) := by decide +kernel
theorem dX4_count_69 : decode cX4_count 69 = .ok (.goto 4, 3) := by decide +kernel
theorem dX4_count_72 : decode cX4_count 72 = .ok (.iconst 1, 1) := by decide +kernel
theorem dX4_count_73 : decode cX4_count 73 = .ok (.iadd, 1) := by decide +kernel
theorem dX4_count_74 : decode cX4_count 74 = .ok (.istore_n 2, 1) := by decide +kernel
theorem dX4_count_75 : decode cX4_count 75 = .ok (.iinc 3 1, 3) := by decide +kernel
theorem dX4_count_78 : decode cX4_count 78 = .ok (.goto (-30), 3) := by decide +kernel
theorem dX4_count_81 : decode cX4_count 81 = .ok (.iload_n 2, 1) := by decide +kernel
theorem dX4_count_82 : decode cX4_count 82 = .ok (.ireturn, 1) := by decide +kernel
theorem dX4_count_83 : decode cX4_count 83 = .ok (.aload_n 0, 1) := by decide +kernel
theorem dX4_count_84 : decode cX4_count 84 = .ok (.invokevirtual 125, 3) := by decide +kernel
theorem dX4_count_87 : decode cX4_count 87 = .ok (.ireturn, 1) := by decide +kernel
theorem dX4_count_88 : decode cX4_count 88 = .ok (.iconst 0, 1) := by decide +kernel
theorem dX4_count_89 : decode cX4_count 89 = .ok (.istore_n 3, 1) := by decide +kernel
theorem dX4_count_90 : decode cX4_count 90 = .ok (.iload_n 3, 1) := by decide +kernel
theorem dX4_count_91 : decode cX4_count 91 = .ok (.aload_n 0, 1) := by decide +kernel
theorem dX4_count_92 : decode cX4_count 92 = .ok (.getfield 7, 3) := by decide +kernel
theorem dX4_count_95 : decode cX4_count 95 = .ok (.if_icmp .ge 48, 3) := by decide +kernel
theorem dX4_count_98 : decode cX4_count 98 = .ok (.iconst 0, 1) := by decide +kernel
theorem dX4_count_99 : decode cX4_count 99 = .ok (.istore 4, 2) := by decide +kernel
theorem dX4_count_101 : decode cX4_count 101 = .ok (.iload 4, 2) := by decide +kernel
theorem dX4_count_103 : decode cX4_count 103 = .ok (.iload_n 3, 1) := by decide +kernel
theorem dX4_count_104 : decode cX4_count 104 = .ok (.if_icmp .ge 33, 3) := by decide +kernel
theorem dX4_count_107 : decode cX4_count 107 = .ok (.iload_n 2, 1) := by decide +kernel
theorem dX4_count_108 : decode cX4_count 108 = .ok (.aload_n 0, 1) := by decide +kernel
theorem dX4_count_109 : decode cX4_count 109 = .ok (.getfield 20, 3) := by decide +kernel
theorem dX4_count_112 : decode cX4_count 112 = .ok (.bipush 8, 2) := by decide +kernel
theorem dX4_count_114 : decode cX4_count 114 = .ok (.iload_n 3, 1) := by decide +kernel
theorem dX4_count_115 : decode cX4_count 115 = .ok (.imul, 1) := by decide +kernel
theorem dX4_count_116 : decode cX4_count 116 = .ok (.iload 4, 2) := by decide +kernel
theorem dX4_count_118 : decode cX4_count 118 = .ok (.iadd, 1) := by decide +kernel
theorem dX4_count_119 : decode cX4_count 119 = .ok (.iaload, 1) := by decide +kernel
theorem dX4_count_120 : decode cX4_count 120 = .ok (.iconst 1, 1) := by decide +kernel
theorem dX4_count_121 : decode cX4_count 121 = .ok (.if_icmp .le 7, 3) := by decide +kernel
theorem dX4_count_124 : decode cX4_count 124 = .ok (.iconst 1, 1) := by decide +kernel
theorem dX4_count_125 : decode cX4_count 125 = .ok (.goto 4, 3) := by decide +kernel
theorem dX4_count_128 : decode cX4_count 128 = .ok (.iconst 0, 1) := by decide +kernel
theorem dX4_count_129 : decode cX4_count 129 = .ok (.iadd, 1) := by decide +kernel
theorem dX4_count_130 : decode cX4_count 130 = .ok (.istore_n 2, 1) := by decide +kernel
theorem dX4_count_131 : decode cX4_count 131 = .ok (.iinc 4 1, 3) := by decide +kernel
theorem dX4_count_134 : decode cX4_count 134 = .ok (.goto (-33), 3) := by decide +kernel
theorem dX4_count_137 : decode cX4_count 137 = .ok (.iinc 3 1, 3) := by decide +kernel
theorem dX4_count_140 : decode cX4_count 140 = .ok (.goto (-50), 3) := by decide +kernel
theorem dX4_count_143 : decode cX4_count 143 = .ok (.iload_n 2, 1) := by decide +kernel
theorem dX4_count_144 : decode cX4_count 144 = .ok (.ireturn, 1) := by decide +kernel
theorem dX4_count_145 : decode cX4_count 145 = .ok (.bipush (-2), 2) := by decide +kernel
theorem dX4_count_147 : decode cX4_count 147 = .ok (.ireturn, 1) := by decide +kernel
theorem dJ6_bitCount_0f7a4_0 : decode cJ6_bitCount_0f7a4 0 = .ok (.iload_n 0, 1) := by decide +kernel
theorem dJ6_bitCount_0f7a4_1 : decode cJ6_bitCount_0f7a4 1 = .ok (.iload_n 0, 1) := by decide +kernel
theorem dJ6_bitCount_0f7a4_2 : decode cJ6_bitCount_0f7a4 2 = .ok (.iconst 1, 1) := by decide +kernel
theorem dJ6_bitCount_0f7a4_3 : decode cJ6_bitCount_0f7a4 3 = .ok (.iushr, 1) := by decide +kernel
theorem dJ6_bitCount_0f7a4_4 : decode cJ6_bitCount_0f7a4 4 = .ok (.ldc_w 265, 3) := by decide +kernel
theorem dJ6_bitCount_0f7a4_7 : decode cJ6_bitCount_0f7a4 7 = .ok (.iand, 1) := by decide +kernel
theorem dJ6_bitCount_0f7a4_8 : decode cJ6_bitCount_0f7a4 8 = .ok (.isub, 1) := by decide +kernel
theorem dJ6_bitCount_0f7a4_9 : decode cJ6_bitCount_0f7a4 9 = .ok (.istore_n 0, 1) := by decide +kernel
theorem dJ6_bitCount_0f7a4_10 : decode cJ6_bitCount_0f7a4 10 = .ok (.iload_n 0, 1) := by decide +kernel
theorem dJ6_bitCount_0f7a4_11 : decode cJ6_bitCount_0f7a4 11 = .ok (.ldc_w 266, 3) := by decide +kernel
theorem dJ6_bitCount_0f7a4_14 : decode cJ6_bitCount_0f7a4 14 = .ok (.iand, 1) := by decide +kernel
theorem dJ6_bitCount_0f7a4_15 : decode cJ6_bitCount_0f7a4 15 = .ok (.iload_n 0, 1) := by decide +kernel
theorem dJ6_bitCount_0f7a4_16 : decode cJ6_bitCount_0f7a4 16 = .ok (.iconst 2, 1) := by decide +kernel
theorem dJ6_bitCount_0f7a4_17 : decode cJ6_bitCount_0f7a4 17 = .ok (.iushr, 1) := by decide +kernel
theorem dJ6_bitCount_0f7a4_18 : decode cJ6_bitCount_0f7a4 18 = .ok (.ldc_w 266, 3) := by decide +kernel
theorem dJ6_bitCount_0f7a4_21 : decode cJ6_bitCount_0f7a4 21 = .ok (.iand, 1) := by decide +kernel
theorem dJ6_bitCount_0f7a4_22 : decode cJ6_bitCount_0f7a4 22 = .ok (.iadd, 1) := by decide +kernel
theorem dJ6_bitCount_0f7a4_23 : decode cJ6_bitCount_0f7a4 23 = .ok (.istore_n 0, 1) := by decide +kernel
theorem dJ6_bitCount_0f7a4_24 : decode cJ6_bitCount_0f7a4 24 = .ok (.iload_n 0, 1) := by decide +kernel
theorem dJ6_bitCount_0f7a4_25 : decode cJ6_bitCount_0f7a4 25 = .ok (.iload_n 0, 1) := by decide +kernel
theorem dJ6_bitCount_0f7a4_26 : decode cJ6_bitCount_0f7a4 26 = .ok (.iconst 4, 1) := by decide +kernel
theorem dJ6_bitCount_0f7a4_27 : decode cJ6_bitCount_0f7a4 27 = .ok (.iushr, 1) := by decide +kernel
theorem dJ6_bitCount_0f7a4_28 : decode cJ6_bitCount_0f7a4 28 = .ok (.iadd, 1) := by decide +kernel
theorem dJ6_bitCount_0f7a4_29 : decode cJ6_bitCount_0f7a4 29 = .ok (.ldc_w 267, 3) := by decide +kernel
theorem dJ6_bitCount_0f7a4_32 : decode cJ6_bitCount_0f7a4 32 = .ok (.iand, 1) := by decide +kernel
theorem dJ6_bitCount_0f7a4_33 : decode cJ6_bitCount_0f7a4 33 = .ok (.istore_n 0, 1) := by decide +kernel
theorem dJ6_bitCount_0f7a4_34 : decode cJ6_bitCount_0f7a4 34 = .ok (.iload_n 0, 1) := by decide +kernel
theorem dJ6_bitCount_0f7a4_35 : decode cJ6_bitCount_0f7a4 35 = .ok (.iload_n 0, 1) := by decide +kernel
theorem dJ6_bitCount_0f7a4_36 : decode cJ6_bitCount_0f7a4 36 = .ok (.bipush 8, 2) := by decide +kernel
theorem dJ6_bitCount_0f7a4_38 : decode cJ6_bitCount_0f7a4 38 = .ok (.iushr, 1) := by decide +kernel
theorem dJ6_bitCount_0f7a4_39 : decode cJ6_bitCount_0f7a4 39 = .ok (.iadd, 1) := by decide +kernel
theorem dJ6_bitCount_0f7a4_40 : decode cJ6_bitCount_0f7a4 40 = .ok (.istore_n 0, 1) := by decide +kernel
theorem dJ6_bitCount_0f7a4_41 : decode cJ6_bitCount_0f7a4 41 = .ok (.iload_n 0, 1) := by decide +kernel
theorem dJ6_bitCount_0f7a4_42 : decode cJ6_bitCount_0f7a4 42 = .ok (.iload_n 0, 1) := by decide +kernel
theorem dJ6_bitCount_0f7a4_43 : decode cJ6_bitCount_0f7a4 43 = .ok (.bipush 16, 2) := by decide +kernel
theorem dJ6_bitCount_0f7a4_45 : decode cJ6_bitCount_0f7a4 45 = .ok (.iushr, 1) := by decide +kernel
theorem dJ6_bitCount_0f7a4_46 : decode cJ6_bitCount_0f7a4 46 = .ok (.iadd, 1) := by decide +kernel
theorem dJ6_bitCount_0f7a4_47 : decode cJ6_bitCount_0f7a4 47 = .ok (.istore_n 0, 1) := by decide +kernel
theorem dJ6_bitCount_0f7a4_48 : decode cJ6_bitCount_0f7a4 48 = .ok (.iload_n 0, 1) := by decide +kernel
theorem dJ6_bitCount_0f7a4_49 : decode cJ6_bitCount_0f7a4 49 = .ok (.bipush 63, 2) := by decide +kernel
theorem dJ6_bitCount_0f7a4_51 : decode cJ6_bitCount_0f7a4 51 = .ok (.iand, 1) := by decide +kernel
theorem dJ6_bitCount_0f7a4_52 : decode cJ6_bitCount_0f7a4 52 = .ok (.ireturn, 1) := by decide +kernel
theorem dJ7_fill_53178_0 : decode cJ7_fill_53178 0 = .ok (.iconst 0, 1) := by decide +kernel
theorem dJ7_fill_53178_1 : decode cJ7_fill_53178 1 = .ok (.istore_n 2, 1) := by decide +kernel
theorem dJ7_fill_53178_2 : decode cJ7_fill_53178 2 = .ok (.aload_n 0, 1) := by decide +kernel
theorem dJ7_fill_53178_3 : decode cJ7_fill_53178 3 = .ok (.arraylength, 1) := by decide +kernel
theorem dJ7_fill_53178_4 : decode cJ7_fill_53178 4 = .ok (.istore_n 3, 1) := by decide +kernel
theorem dJ7_fill_53178_5 : decode cJ7_fill_53178 5 = .ok (.iload_n 2, 1) := by decide +kernel
theorem dJ7_fill_53178_6 : decode cJ7_fill_53178 6 = .ok (.iload_n 3, 1) := by decide +kernel
theorem dJ7_fill_53178_7 : decode cJ7_fill_53178 7 = .ok (.if_icmp .ge 13, 3) := by decide +kernel
theorem dJ7_fill_53178_10 : decode cJ7_fill_53178 10 = .ok (.aload_n 0, 1) := by decide +kernel
theorem dJ7_fill_53178_11 : decode cJ7_fill_53178 11 = .ok (.iload_n 2, 1) := by decide +kernel
theorem dJ7_fill_53178_12 : decode cJ7_fill_53178 12 = .ok (.iload_n 1, 1) := by decide +kernel
theorem dJ7_fill_53178_13 : decode cJ7_fill_53178 13 = .ok (.iastore, 1) := by decide +kernel
theorem dJ7_fill_53178_14 : decode cJ7_fill_53178 14 = .ok (.iinc 2 1, 3) := by decide +kernel
theorem dJ7_fill_53178_17 : decode cJ7_fill_53178 17 = .ok (.goto (-12), 3) := by decide +kernel
theorem dJ7_fill_53178_20 : decode cJ7_fill_53178 20 = .ok (.return_, 1) := by decide +kernel
theorem dL_law_0 : decode cL_law 0 = .ok (.new 7, 3) := by decide +kernel
theorem dL_law_3 : decode cL_law 3 = .ok (.dup, 1) := by decide +kernel
theorem dL_law_4 : decode cL_law 4 = .ok (.invokespecial 9, 3) := by decide +kernel
theorem dL_law_7 : decode cL_law 7 = .ok (.astore_n 1, 1) := by decide +kernel
theorem dL_law_8 : decode cL_law 8 = .ok (.new 10, 3) := by decide +kernel
theorem dL_law_11 : decode cL_law 11 = .ok (.dup, 1) := by decide +kernel
theorem dL_law_12 : decode cL_law 12 = .ok (.invokespecial 12, 3) := by decide +kernel
theorem dL_law_15 : decode cL_law 15 = .ok (.astore_n 2, 1) := by decide +kernel
theorem dL_law_16 : decode cL_law 16 = .ok (.iconst 0, 1) := by decide +kernel
theorem dL_law_17 : decode cL_law 17 = .ok (.istore_n 3, 1) := by decide +kernel
theorem dL_law_18 : decode cL_law 18 = .ok (.iload_n 3, 1) := by decide +kernel
theorem dL_law_19 : decode cL_law 19 = .ok (.aload_n 0, 1) := by decide +kernel
theorem dL_law_20 : decode cL_law 20 = .ok (.arraylength, 1) := by decide +kernel
theorem dL_law_21 : decode cL_law 21 = .ok (.iconst 5, 1) := by decide +kernel
theorem dL_law_22 : decode cL_law 22 = .ok (.isub, 1) := by decide +kernel
theorem dL_law_23 : decode cL_law 23 = .ok (.if_icmp .gt 852, 3) := by decide +kernel
theorem dL_law_26 : decode cL_law 26 = .ok (.aload_n 0, 1) := by decide +kernel
theorem dL_law_27 : decode cL_law 27 = .ok (.iload_n 3, 1) := by decide +kernel
theorem dL_law_28 : decode cL_law 28 = .ok (.iaload, 1) := by decide +kernel
theorem dL_law_29 : decode cL_law 29 = .ok (.bipush 31, 2) := by decide +kernel
theorem dL_law_31 : decode cL_law 31 = .ok (.iand, 1) := by decide +kernel
theorem dL_law_32 : decode cL_law 32 = .ok (.tableswitch 837 0 20 #[100, 123, 166, 209, 232, 265, 288, 321, 344, 377, 437, 507, 530, 543, 576, 599, 612, 661, 721, 771, 814], 100) := by decide +kernel
theorem dL_law_132 : decode cL_law 132 = .ok (.aload_n 1, 1) := by decide +kernel
theorem dL_law_133 : decode cL_law 133 = .ok (.aload_n 0, 1) := by decide +kernel
theorem dL_law_134 : decode cL_law 134 = .ok (.iload_n 3, 1) := by decide +kernel
theorem dL_law_135 : decode cL_law 135 = .ok (.iconst 1, 1) := by decide +kernel
theorem dL_law_136 : decode cL_law 136 = .ok (.iadd, 1) := by decide +kernel
theorem dL_law_137 : decode cL_law 137 = .ok (.iaload, 1) := by decide +kernel
theorem dL_law_138 : decode cL_law 138 = .ok (.invokevirtual 13, 3) := by decide +kernel
theorem dL_law_141 : decode cL_law 141 = .ok (.aload_n 2, 1) := by decide +kernel
theorem dL_law_142 : decode cL_law 142 = .ok (.aload_n 0, 1) := by decide +kernel
theorem dL_law_143 : decode cL_law 143 = .ok (.iload_n 3, 1) := by decide +kernel
theorem dL_law_144 : decode cL_law 144 = .ok (.iconst 1, 1) := by decide +kernel
theorem dL_law_145 : decode cL_law 145 = .ok (.iadd, 1) := by decide +kernel
theorem dL_law_146 : decode cL_law 146 = .ok (.iaload, 1) := by decide +kernel
theorem dL_law_147 : decode cL_law 147 = .ok (.invokevirtual 17, 3) := by decide +kernel
theorem dL_law_150 : decode cL_law 150 = .ok (.if_icmp .eq 719, 3) := by decide +kernel
theorem dL_law_153 : decode cL_law 153 = .ok (.iconst 0, 1) := by decide +kernel
theorem dL_law_154 : decode cL_law 154 = .ok (.ireturn, 1) := by decide +kernel
theorem dL_law_155 : decode cL_law 155 = .ok (.aload_n 1, 1) := by decide +kernel
theorem dL_law_156 : decode cL_law 156 = .ok (.aload_n 0, 1) := by decide +kernel
theorem dL_law_157 : decode cL_law 157 = .ok (.iload_n 3, 1) := by decide +kernel
theorem dL_law_158 : decode cL_law 158 = .ok (.iconst 1, 1) := by decide +kernel
theorem dL_law_159 : decode cL_law 159 = .ok (.iadd, 1) := by decide +kernel
theorem dL_law_160 : decode cL_law 160 = .ok (.iaload, 1) := by decide +kernel
theorem dL_law_161 : decode cL_law 161 = .ok (.aload_n 0, 1) := by decide +kernel
theorem dL_law_162 : decode cL_law 162 = .ok (.iload_n 3, 1) := by decide +kernel
theorem dL_law_163 : decode cL_law 163 = .ok (.iconst 2, 1) := by decide +kernel
theorem dL_law_164 : decode cL_law 164 = .ok (.iadd, 1) := by decide +kernel
theorem dL_law_165 : decode cL_law 165 = .ok (.iaload, 1) := by decide +kernel
theorem dL_law_166 : decode cL_law 166 = .ok (.aload_n 0, 1) := by decide +kernel
theorem dL_law_167 : decode cL_law 167 = .ok (.iload_n 3, 1) := by decide +kernel
theorem dL_law_168 : decode cL_law 168 = .ok (.iconst 3, 1) := by decide +kernel
theorem dL_law_169 : decode cL_law 169 = .ok (.iadd, 1) := by decide +kernel
theorem dL_law_170 : decode cL_law 170 = .ok (.iaload, 1) := by decide +kernel
theorem dL_law_171 : decode cL_law 171 = .ok (.invokevirtual 18, 3) := by decide +kernel
theorem dL_law_174 : decode cL_law 174 = .ok (.aload_n 2, 1) := by decide +kernel
theorem dL_law_175 : decode cL_law 175 = .ok (.aload_n 0, 1) := by decide +kernel
theorem dL_law_176 : decode cL_law 176 = .ok (.iload_n 3, 1) := by decide +kernel
theorem dL_law_177 : decode cL_law 177 = .ok (.iconst 1, 1) := by decide +kernel
theorem dL_law_178 : decode cL_law 178 = .ok (.iadd, 1) := by decide +kernel
theorem dL_law_179 : decode cL_law 179 = .ok (.iaload, 1) := by decide +kernel
theorem dL_law_180 : decode cL_law 180 = .ok (.aload_n 0, 1) := by decide +kernel
theorem dL_law_181 : decode cL_law 181 = .ok (.iload_n 3, 1) := by decide +kernel
theorem dL_law_182 : decode cL_law 182 = .ok (.iconst 2, 1) := by decide +kernel
theorem dL_law_183 : decode cL_law 183 = .ok (.iadd, 1) := by decide +kernel
theorem dL_law_184 : decode cL_law 184 = .ok (.iaload, 1) := by decide +kernel
theorem dL_law_185 : decode cL_law 185 = .ok (.aload_n 0, 1) := by decide +kernel
theorem dL_law_186 : decode cL_law 186 = .ok (.iload_n 3, 1) := by decide +kernel
theorem dL_law_187 : decode cL_law 187 = .ok (.iconst 3, 1) := by decide +kernel
theorem dL_law_188 : decode cL_law 188 = .ok (.iadd, 1) := by decide +kernel
theorem dL_law_189 : decode cL_law 189 = .ok (.iaload, 1) := by decide +kernel
theorem dL_law_190 : decode cL_law 190 = .ok (.invokevirtual 22, 3) := by decide +kernel
theorem dL_law_193 : decode cL_law 193 = .ok (.if_icmp .eq 676, 3) := by decide +kernel
theorem dL_law_196 : decode cL_law 196 = .ok (.iconst 0, 1) := by decide +kernel
theorem dL_law_197 : decode cL_law 197 = .ok (.ireturn, 1) := by decide +kernel
theorem dL_law_198 : decode cL_law 198 = .ok (.aload_n 1, 1) := by decide +kernel
theorem dL_law_199 : decode cL_law 199 = .ok (.aload_n 0, 1) := by decide +kernel
theorem dL_law_200 : decode cL_law 200 = .ok (.iload_n 3, 1) := by decide +kernel
theorem dL_law_201 : decode cL_law 201 = .ok (.iconst 1, 1) := by decide +kernel
theorem dL_law_202 : decode cL_law 202 = .ok (.iadd, 1) := by decide +kernel
theorem dL_law_203 : decode cL_law 203 = .ok (.iaload, 1) := by decide +kernel
theorem dL_law_204 : decode cL_law 204 = .ok (.aload_n 0, 1) := by decide +kernel
theorem dL_law_205 : decode cL_law 205 = .ok (.iload_n 3, 1) := by decide +kernel
theorem dL_law_206 : decode cL_law 206 = .ok (.iconst 2, 1) := by decide +kernel
theorem dL_law_207 : decode cL_law 207 = .ok (.iadd, 1) := by decide +kernel
theorem dL_law_208 : decode cL_law 208 = .ok (.iaload, 1) := by decide +kernel
theorem dL_law_209 : decode cL_law 209 = .ok (.aload_n 0, 1) := by decide +kernel
theorem dL_law_210 : decode cL_law 210 = .ok (.iload_n 3, 1) := by decide +kernel
theorem dL_law_211 : decode cL_law 211 = .ok (.iconst 3, 1) := by decide +kernel
theorem dL_law_212 : decode cL_law 212 = .ok (.iadd, 1) := by decide +kernel
theorem dL_law_213 : decode cL_law 213 = .ok (.iaload, 1) := by decide +kernel
theorem dL_law_214 : decode cL_law 214 = .ok (.invokevirtual 23, 3) := by decide +kernel
theorem dL_law_217 : decode cL_law 217 = .ok (.aload_n 2, 1) := by decide +kernel
theorem dL_law_218 : decode cL_law 218 = .ok (.aload_n 0, 1) := by decide +kernel
theorem dL_law_219 : decode cL_law 219 = .ok (.iload_n 3, 1) := by decide +kernel
theorem dL_law_220 : decode cL_law 220 = .ok (.iconst 1, 1) := by decide +kernel
theorem dL_law_221 : decode cL_law 221 = .ok (.iadd, 1) := by decide +kernel
theorem dL_law_222 : decode cL_law 222 = .ok (.iaload, 1) := by decide +kernel
theorem dL_law_223 : decode cL_law 223 = .ok (.aload_n 0, 1) := by decide +kernel
theorem dL_law_224 : decode cL_law 224 = .ok (.iload_n 3, 1) := by decide +kernel
theorem dL_law_225 : decode cL_law 225 = .ok (.iconst 2, 1) := by decide +kernel
theorem dL_law_226 : decode cL_law 226 = .ok (.iadd, 1) := by decide +kernel
theorem dL_law_227 : decode cL_law 227 = .ok (.iaload, 1) := by decide +kernel
theorem dL_law_228 : decode cL_law 228 = .ok (.aload_n 0, 1) := by decide +kernel
theorem dL_law_229 : decode cL_law 229 = .ok (.iload_n 3, 1) := by decide +kernel
theorem dL_law_230 : decode cL_law 230 = .ok (.iconst 3, 1) := by decide +kernel
theorem dL_law_231 : decode cL_law 231 = .ok (.iadd, 1) := by decide +kernel
theorem dL_law_232 : decode cL_law 232 = .ok (.iaload, 1) := by decide +kernel
theorem dL_law_233 : decode cL_law 233 = .ok (.invokevirtual 26, 3) := by decide +kernel
theorem dL_law_236 : decode cL_law 236 = .ok (.if_icmp .eq 633, 3) := by decide +kernel
theorem dL_law_239 : decode cL_law 239 = .ok (.iconst 0, 1) := by decide +kernel
theorem dL_law_240 : decode cL_law 240 = .ok (.ireturn, 1) := by decide +kernel
theorem dL_law_241 : decode cL_law 241 = .ok (.aload_n 1, 1) := by decide +kernel
theorem dL_law_242 : decode cL_law 242 = .ok (.aload_n 0, 1) := by decide +kernel
theorem dL_law_243 : decode cL_law 243 = .ok (.iload_n 3, 1) := by decide +kernel
theorem dL_law_244 : decode cL_law 244 = .ok (.iconst 1, 1) := by decide +kernel
theorem dL_law_245 : decode cL_law 245 = .ok (.iadd, 1) := by decide +kernel
theorem dL_law_246 : decode cL_law 246 = .ok (.iaload, 1) := by decide +kernel
theorem dL_law_247 : decode cL_law 247 = .ok (.invokevirtual 27, 3) := by decide +kernel
theorem dL_law_250 : decode cL_law 250 = .ok (.aload_n 2, 1) := by decide +kernel
theorem dL_law_251 : decode cL_law 251 = .ok (.aload_n 0, 1) := by decide +kernel
theorem dL_law_252 : decode cL_law 252 = .ok (.iload_n 3, 1) := by decide +kernel
theorem dL_law_253 : decode cL_law 253 = .ok (.iconst 1, 1) := by decide +kernel
theorem dL_law_254 : decode cL_law 254 = .ok (.iadd, 1) := by decide +kernel
theorem dL_law_255 : decode cL_law 255 = .ok (.iaload, 1) := by decide +kernel
theorem dL_law_256 : decode cL_law 256 = .ok (.invokevirtual 30, 3) := by decide +kernel
theorem dL_law_259 : decode cL_law 259 = .ok (.if_icmp .eq 610, 3) := by decide +kernel
theorem dL_law_262 : decode cL_law 262 = .ok (.iconst 0, 1) := by decide +kernel
theorem dL_law_263 : decode cL_law 263 = .ok (.ireturn, 1) := by decide +kernel
theorem dL_law_264 : decode cL_law 264 = .ok (.aload_n 1, 1) := by decide +kernel
theorem dL_law_265 : decode cL_law 265 = .ok (.aload_n 0, 1) := by decide +kernel
theorem dL_law_266 : decode cL_law 266 = .ok (.iload_n 3, 1) := by decide +kernel
theorem dL_law_267 : decode cL_law 267 = .ok (.iconst 1, 1) := by decide +kernel
theorem dL_law_268 : decode cL_law 268 = .ok (.iadd, 1) := by decide +kernel
theorem dL_law_269 : decode cL_law 269 = .ok (.iaload, 1) := by decide +kernel
theorem dL_law_270 : decode cL_law 270 = .ok (.aload_n 0, 1) := by decide +kernel
theorem dL_law_271 : decode cL_law 271 = .ok (.iload_n 3, 1) := by decide +kernel
theorem dL_law_272 : decode cL_law 272 = .ok (.iconst 2, 1) := by decide +kernel
theorem dL_law_273 : decode cL_law 273 = .ok (.iadd, 1) := by decide +kernel
theorem dL_law_274 : decode cL_law 274 = .ok (.iaload, 1) := by decide +kernel
theorem dL_law_275 : decode cL_law 275 = .ok (.invokevirtual 31, 3) := by decide +kernel
theorem dL_law_278 : decode cL_law 278 = .ok (.aload_n 2, 1) := by decide +kernel
theorem dL_law_279 : decode cL_law 279 = .ok (.aload_n 0, 1) := by decide +kernel
theorem dL_law_280 : decode cL_law 280 = .ok (.iload_n 3, 1) := by decide +kernel
theorem dL_law_281 : decode cL_law 281 = .ok (.iconst 1, 1) := by decide +kernel
theorem dL_law_282 : decode cL_law 282 = .ok (.iadd, 1) := by decide +kernel
theorem dL_law_283 : decode cL_law 283 = .ok (.iaload, 1) := by decide +kernel
theorem dL_law_284 : decode cL_law 284 = .ok (.aload_n 0, 1) := by decide +kernel
theorem dL_law_285 : decode cL_law 285 = .ok (.iload_n 3, 1) := by decide +kernel
theorem dL_law_286 : decode cL_law 286 = .ok (.iconst 2, 1) := by decide +kernel
theorem dL_law_287 : decode cL_law 287 = .ok (.iadd, 1) := by decide +kernel
theorem dL_law_288 : decode cL_law 288 = .ok (.iaload, 1) := by decide +kernel
theorem dL_law_289 : decode cL_law 289 = .ok (.invokevirtual 35, 3) := by decide +kernel
theorem dL_law_292 : decode cL_law 292 = .ok (.if_icmp .eq 577, 3) := by decide +kernel
theorem dL_law_295 : decode cL_law 295 = .ok (.iconst 0, 1) := by decide +kernel
theorem dL_law_296 : decode cL_law 296 = .ok (.ireturn, 1) := by decide +kernel
theorem dL_law_297 : decode cL_law 297 = .ok (.aload_n 1, 1) := by decide +kernel
theorem dL_law_298 : decode cL_law 298 = .ok (.aload_n 0, 1) := by decide +kernel
theorem dL_law_299 : decode cL_law 299 = .ok (.iload_n 3, 1) := by decide +kernel
theorem dL_law_300 : decode cL_law 300 = .ok (.iconst 1, 1) := by decide +kernel
theorem dL_law_301 : decode cL_law 301 = .ok (.iadd, 1) := by decide +kernel
theorem dL_law_302 : decode cL_law 302 = .ok (.iaload, 1) := by decide +kernel
theorem dL_law_303 : decode cL_law 303 = .ok (.invokevirtual 36, 3) := by decide +kernel
theorem dL_law_306 : decode cL_law 306 = .ok (.aload_n 2, 1) := by decide +kernel
theorem dL_law_307 : decode cL_law 307 = .ok (.aload_n 0, 1) := by decide +kernel
theorem dL_law_308 : decode cL_law 308 = .ok (.iload_n 3, 1) := by decide +kernel
theorem dL_law_309 : decode cL_law 309 = .ok (.iconst 1, 1) := by decide +kernel
theorem dL_law_310 : decode cL_law 310 = .ok (.iadd, 1) := by decide +kernel
theorem dL_law_311 : decode cL_law 311 = .ok (.iaload, 1) := by decide +kernel
theorem dL_law_312 : decode cL_law 312 = .ok (.invokevirtual 39, 3) := by decide +kernel
theorem dL_law_315 : decode cL_law 315 = .ok (.if_icmp .eq 554, 3) := by decide +kernel
theorem dL_law_318 : decode cL_law 318 = .ok (.iconst 0, 1) := by decide +kernel
theorem dL_law_319 : decode cL_law 319 = .ok (.ireturn, 1) := by decide +kernel
theorem dL_law_320 : decode cL_law 320 = .ok (.aload_n 1, 1) := by decide +kernel
theorem dL_law_321 : decode cL_law 321 = .ok (.aload_n 0, 1) := by decide +kernel
theorem dL_law_322 : decode cL_law 322 = .ok (.iload_n 3, 1) := by decide +kernel
theorem dL_law_323 : decode cL_law 323 = .ok (.iconst 1, 1) := by decide +kernel
theorem dL_law_324 : decode cL_law 324 = .ok (.iadd, 1) := by decide +kernel
theorem dL_law_325 : decode cL_law 325 = .ok (.iaload, 1) := by decide +kernel
theorem dL_law_326 : decode cL_law 326 = .ok (.aload_n 0, 1) := by decide +kernel
theorem dL_law_327 : decode cL_law 327 = .ok (.iload_n 3, 1) := by decide +kernel
theorem dL_law_328 : decode cL_law 328 = .ok (.iconst 2, 1) := by decide +kernel
theorem dL_law_329 : decode cL_law 329 = .ok (.iadd, 1) := by decide +kernel
theorem dL_law_330 : decode cL_law 330 = .ok (.iaload, 1) := by decide +kernel
theorem dL_law_331 : decode cL_law 331 = .ok (.invokevirtual 40, 3) := by decide +kernel
theorem dL_law_334 : decode cL_law 334 = .ok (.aload_n 2, 1) := by decide +kernel
theorem dL_law_335 : decode cL_law 335 = .ok (.aload_n 0, 1) := by decide +kernel
theorem dL_law_336 : decode cL_law 336 = .ok (.iload_n 3, 1) := by decide +kernel
theorem dL_law_337 : decode cL_law 337 = .ok (.iconst 1, 1) := by decide +kernel
theorem dL_law_338 : decode cL_law 338 = .ok (.iadd, 1) := by decide +kernel
theorem dL_law_339 : decode cL_law 339 = .ok (.iaload, 1) := by decide +kernel
theorem dL_law_340 : decode cL_law 340 = .ok (.aload_n 0, 1) := by decide +kernel
theorem dL_law_341 : decode cL_law 341 = .ok (.iload_n 3, 1) := by decide +kernel
theorem dL_law_342 : decode cL_law 342 = .ok (.iconst 2, 1) := by decide +kernel
theorem dL_law_343 : decode cL_law 343 = .ok (.iadd, 1) := by decide +kernel
theorem dL_law_344 : decode cL_law 344 = .ok (.iaload, 1) := by decide +kernel
theorem dL_law_345 : decode cL_law 345 = .ok (.invokevirtual 43, 3) := by decide +kernel
theorem dL_law_348 : decode cL_law 348 = .ok (.if_icmp .eq 521, 3) := by decide +kernel
theorem dL_law_351 : decode cL_law 351 = .ok (.iconst 0, 1) := by decide +kernel
theorem dL_law_352 : decode cL_law 352 = .ok (.ireturn, 1) := by decide +kernel
theorem dL_law_353 : decode cL_law 353 = .ok (.aload_n 1, 1) := by decide +kernel
theorem dL_law_354 : decode cL_law 354 = .ok (.aload_n 0, 1) := by decide +kernel
theorem dL_law_355 : decode cL_law 355 = .ok (.iload_n 3, 1) := by decide +kernel
theorem dL_law_356 : decode cL_law 356 = .ok (.iconst 1, 1) := by decide +kernel
theorem dL_law_357 : decode cL_law 357 = .ok (.iadd, 1) := by decide +kernel
theorem dL_law_358 : decode cL_law 358 = .ok (.iaload, 1) := by decide +kernel
theorem dL_law_359 : decode cL_law 359 = .ok (.invokevirtual 44, 3) := by decide +kernel
theorem dL_law_362 : decode cL_law 362 = .ok (.aload_n 2, 1) := by decide +kernel
theorem dL_law_363 : decode cL_law 363 = .ok (.aload_n 0, 1) := by decide +kernel
theorem dL_law_364 : decode cL_law 364 = .ok (.iload_n 3, 1) := by decide +kernel
theorem dL_law_365 : decode cL_law 365 = .ok (.iconst 1, 1) := by decide +kernel
theorem dL_law_366 : decode cL_law 366 = .ok (.iadd, 1) := by decide +kernel
theorem dL_law_367 : decode cL_law 367 = .ok (.iaload, 1) := by decide +kernel
theorem dL_law_368 : decode cL_law 368 = .ok (.invokevirtual 47, 3) := by decide +kernel
theorem dL_law_371 : decode cL_law 371 = .ok (.if_icmp .eq 498, 3) := by decide +kernel
theorem dL_law_374 : decode cL_law 374 = .ok (.iconst 0, 1) := by decide +kernel
theorem dL_law_375 : decode cL_law 375 = .ok (.ireturn, 1) := by decide +kernel
theorem dL_law_376 : decode cL_law 376 = .ok (.aload_n 1, 1) := by decide +kernel
theorem dL_law_377 : decode cL_law 377 = .ok (.aload_n 0, 1) := by decide +kernel
theorem dL_law_378 : decode cL_law 378 = .ok (.iload_n 3, 1) := by decide +kernel
theorem dL_law_379 : decode cL_law 379 = .ok (.iconst 1, 1) := by decide +kernel
theorem dL_law_380 : decode cL_law 380 = .ok (.iadd, 1) := by decide +kernel
theorem dL_law_381 : decode cL_law 381 = .ok (.iaload, 1) := by decide +kernel
theorem dL_law_382 : decode cL_law 382 = .ok (.aload_n 0, 1) := by decide +kernel
theorem dL_law_383 : decode cL_law 383 = .ok (.iload_n 3, 1) := by decide +kernel
theorem dL_law_384 : decode cL_law 384 = .ok (.iconst 2, 1) := by decide +kernel
theorem dL_law_385 : decode cL_law 385 = .ok (.iadd, 1) := by decide +kernel
theorem dL_law_386 : decode cL_law 386 = .ok (.iaload, 1) := by decide +kernel
theorem dL_law_387 : decode cL_law 387 = .ok (.invokevirtual 48, 3) := by decide +kernel
theorem dL_law_390 : decode cL_law 390 = .ok (.aload_n 2, 1) := by decide +kernel
theorem dL_law_391 : decode cL_law 391 = .ok (.aload_n 0, 1) := by decide +kernel
theorem dL_law_392 : decode cL_law 392 = .ok (.iload_n 3, 1) := by decide +kernel
theorem dL_law_393 : decode cL_law 393 = .ok (.iconst 1, 1) := by decide +kernel
theorem dL_law_394 : decode cL_law 394 = .ok (.iadd, 1) := by decide +kernel
theorem dL_law_395 : decode cL_law 395 = .ok (.iaload, 1) := by decide +kernel
theorem dL_law_396 : decode cL_law 396 = .ok (.aload_n 0, 1) := by decide +kernel
theorem dL_law_397 : decode cL_law 397 = .ok (.iload_n 3, 1) := by decide +kernel
theorem dL_law_398 : decode cL_law 398 = .ok (.iconst 2, 1) := by decide +kernel
theorem dL_law_399 : decode cL_law 399 = .ok (.iadd, 1) := by decide +kernel
theorem dL_law_400 : decode cL_law 400 = .ok (.iaload, 1) := by decide +kernel
theorem dL_law_401 : decode cL_law 401 = .ok (.invokevirtual 51, 3) := by decide +kernel
theorem dL_law_404 : decode cL_law 404 = .ok (.if_icmp .eq 465, 3) := by decide +kernel
theorem dL_law_407 : decode cL_law 407 = .ok (.iconst 0, 1) := by decide +kernel
theorem dL_law_408 : decode cL_law 408 = .ok (.ireturn, 1) := by decide +kernel
theorem dL_law_409 : decode cL_law 409 = .ok (.aload_n 1, 1) := by decide +kernel
theorem dL_law_410 : decode cL_law 410 = .ok (.aload_n 0, 1) := by decide +kernel
theorem dL_law_411 : decode cL_law 411 = .ok (.iload_n 3, 1) := by decide +kernel
theorem dL_law_412 : decode cL_law 412 = .ok (.iconst 1, 1) := by decide +kernel
theorem dL_law_413 : decode cL_law 413 = .ok (.iadd, 1) := by decide +kernel
theorem dL_law_414 : decode cL_law 414 = .ok (.iaload, 1) := by decide +kernel
theorem dL_law_415 : decode cL_law 415 = .ok (.aload_n 0, 1) := by decide +kernel
theorem dL_law_416 : decode cL_law 416 = .ok (.iload_n 3, 1) := by decide +kernel
theorem dL_law_417 : decode cL_law 417 = .ok (.iconst 2, 1) := by decide +kernel
theorem dL_law_418 : decode cL_law 418 = .ok (.iadd, 1) := by decide +kernel
theorem dL_law_419 : decode cL_law 419 = .ok (.iaload, 1) := by decide +kernel
theorem dL_law_420 : decode cL_law 420 = .ok (.aload_n 0, 1) := by decide +kernel
theorem dL_law_421 : decode cL_law 421 = .ok (.iload_n 3, 1) := by decide +kernel
theorem dL_law_422 : decode cL_law 422 = .ok (.iconst 3, 1) := by decide +kernel
theorem dL_law_423 : decode cL_law 423 = .ok (.iadd, 1) := by decide +kernel
theorem dL_law_424 : decode cL_law 424 = .ok (.iaload, 1) := by decide +kernel
theorem dL_law_425 : decode cL_law 425 = .ok (.ifCond .eq 7, 3) := by decide +kernel
theorem dL_law_428 : decode cL_law 428 = .ok (.iconst 1, 1) := by decide +kernel
theorem dL_law_429 : decode cL_law 429 = .ok (.goto 4, 3) := by decide +kernel
theorem dL_law_432 : decode cL_law 432 = .ok (.iconst 0, 1) := by decide +kernel
theorem dL_law_433 : decode cL_law 433 = .ok (.invokevirtual 52, 3) := by decide +kernel
theorem dL_law_436 : decode cL_law 436 = .ok (.aload_n 2, 1) := by decide +kernel
theorem dL_law_437 : decode cL_law 437 = .ok (.aload_n 0, 1) := by decide +kernel
theorem dL_law_438 : decode cL_law 438 = .ok (.iload_n 3, 1) := by decide +kernel
theorem dL_law_439 : decode cL_law 439 = .ok (.iconst 1, 1) := by decide +kernel
theorem dL_law_440 : decode cL_law 440 = .ok (.iadd, 1) := by decide +kernel
theorem dL_law_441 : decode cL_law 441 = .ok (.iaload, 1) := by decide +kernel
theorem dL_law_442 : decode cL_law 442 = .ok (.aload_n 0, 1) := by decide +kernel
theorem dL_law_443 : decode cL_law 443 = .ok (.iload_n 3, 1) := by decide +kernel
theorem dL_law_444 : decode cL_law 444 = .ok (.iconst 2, 1) := by decide +kernel
theorem dL_law_445 : decode cL_law 445 = .ok (.iadd, 1) := by decide +kernel
theorem dL_law_446 : decode cL_law 446 = .ok (.iaload, 1) := by decide +kernel
theorem dL_law_447 : decode cL_law 447 = .ok (.aload_n 0, 1) := by decide +kernel
theorem dL_law_448 : decode cL_law 448 = .ok (.iload_n 3, 1) := by decide +kernel
theorem dL_law_449 : decode cL_law 449 = .ok (.iconst 3, 1) := by decide +kernel
theorem dL_law_450 : decode cL_law 450 = .ok (.iadd, 1) := by decide +kernel
theorem dL_law_451 : decode cL_law 451 = .ok (.iaload, 1) := by decide +kernel
theorem dL_law_452 : decode cL_law 452 = .ok (.ifCond .eq 7, 3) := by decide +kernel
theorem dL_law_455 : decode cL_law 455 = .ok (.iconst 1, 1) := by decide +kernel
theorem dL_law_456 : decode cL_law 456 = .ok (.goto 4, 3) := by decide +kernel
theorem dL_law_459 : decode cL_law 459 = .ok (.iconst 0, 1) := by decide +kernel
theorem dL_law_460 : decode cL_law 460 = .ok (.invokevirtual 56, 3) := by decide +kernel
theorem dL_law_463 : decode cL_law 463 = .ok (.lcmp, 1) := by decide +kernel
theorem dL_law_464 : decode cL_law 464 = .ok (.ifCond .eq 405, 3) := by decide +kernel
theorem dL_law_467 : decode cL_law 467 = .ok (.iconst 0, 1) := by decide +kernel
theorem dL_law_468 : decode cL_law 468 = .ok (.ireturn, 1) := by decide +kernel
theorem dL_law_469 : decode cL_law 469 = .ok (.aload_n 1, 1) := by decide +kernel
theorem dL_law_470 : decode cL_law 470 = .ok (.aload_n 0, 1) := by decide +kernel
theorem dL_law_471 : decode cL_law 471 = .ok (.iload_n 3, 1) := by decide +kernel
theorem dL_law_472 : decode cL_law 472 = .ok (.iconst 1, 1) := by decide +kernel
theorem dL_law_473 : decode cL_law 473 = .ok (.iadd, 1) := by decide +kernel
theorem dL_law_474 : decode cL_law 474 = .ok (.iaload, 1) := by decide +kernel
theorem dL_law_475 : decode cL_law 475 = .ok (.aload_n 0, 1) := by decide +kernel
theorem dL_law_476 : decode cL_law 476 = .ok (.iload_n 3, 1) := by decide +kernel
theorem dL_law_477 : decode cL_law 477 = .ok (.iconst 2, 1) := by decide +kernel
theorem dL_law_478 : decode cL_law 478 = .ok (.iadd, 1) := by decide +kernel
theorem dL_law_479 : decode cL_law 479 = .ok (.iaload, 1) := by decide +kernel
theorem dL_law_480 : decode cL_law 480 = .ok (.aload_n 0, 1) := by decide +kernel
theorem dL_law_481 : decode cL_law 481 = .ok (.iload_n 3, 1) := by decide +kernel
theorem dL_law_482 : decode cL_law 482 = .ok (.iconst 3, 1) := by decide +kernel
theorem dL_law_483 : decode cL_law 483 = .ok (.iadd, 1) := by decide +kernel
theorem dL_law_484 : decode cL_law 484 = .ok (.iaload, 1) := by decide +kernel
theorem dL_law_485 : decode cL_law 485 = .ok (.aload_n 0, 1) := by decide +kernel
theorem dL_law_486 : decode cL_law 486 = .ok (.iload_n 3, 1) := by decide +kernel
theorem dL_law_487 : decode cL_law 487 = .ok (.iconst 4, 1) := by decide +kernel
theorem dL_law_488 : decode cL_law 488 = .ok (.iadd, 1) := by decide +kernel
theorem dL_law_489 : decode cL_law 489 = .ok (.iaload, 1) := by decide +kernel
theorem dL_law_490 : decode cL_law 490 = .ok (.ifCond .eq 7, 3) := by decide +kernel
theorem dL_law_493 : decode cL_law 493 = .ok (.iconst 1, 1) := by decide +kernel
theorem dL_law_494 : decode cL_law 494 = .ok (.goto 4, 3) := by decide +kernel
theorem dL_law_497 : decode cL_law 497 = .ok (.iconst 0, 1) := by decide +kernel
theorem dL_law_498 : decode cL_law 498 = .ok (.invokevirtual 57, 3) := by decide +kernel
theorem dL_law_501 : decode cL_law 501 = .ok (.aload_n 2, 1) := by decide +kernel
theorem dL_law_502 : decode cL_law 502 = .ok (.aload_n 0, 1) := by decide +kernel
theorem dL_law_503 : decode cL_law 503 = .ok (.iload_n 3, 1) := by decide +kernel
theorem dL_law_504 : decode cL_law 504 = .ok (.iconst 1, 1) := by decide +kernel
theorem dL_law_505 : decode cL_law 505 = .ok (.iadd, 1) := by decide +kernel
theorem dL_law_506 : decode cL_law 506 = .ok (.iaload, 1) := by decide +kernel
theorem dL_law_507 : decode cL_law 507 = .ok (.aload_n 0, 1) := by decide +kernel
theorem dL_law_508 : decode cL_law 508 = .ok (.iload_n 3, 1) := by decide +kernel
theorem dL_law_509 : decode cL_law 509 = .ok (.iconst 2, 1) := by decide +kernel
theorem dL_law_510 : decode cL_law 510 = .ok (.iadd, 1) := by decide +kernel
theorem dL_law_511 : decode cL_law 511 = .ok (.iaload, 1) := by decide +kernel
theorem dL_law_512 : decode cL_law 512 = .ok (.aload_n 0, 1) := by decide +kernel
theorem dL_law_513 : decode cL_law 513 = .ok (.iload_n 3, 1) := by decide +kernel
theorem dL_law_514 : decode cL_law 514 = .ok (.iconst 3, 1) := by decide +kernel
theorem dL_law_515 : decode cL_law 515 = .ok (.iadd, 1) := by decide +kernel
theorem dL_law_516 : decode cL_law 516 = .ok (.iaload, 1) := by decide +kernel
theorem dL_law_517 : decode cL_law 517 = .ok (.aload_n 0, 1) := by decide +kernel
theorem dL_law_518 : decode cL_law 518 = .ok (.iload_n 3, 1) := by decide +kernel
theorem dL_law_519 : decode cL_law 519 = .ok (.iconst 4, 1) := by decide +kernel
theorem dL_law_520 : decode cL_law 520 = .ok (.iadd, 1) := by decide +kernel
theorem dL_law_521 : decode cL_law 521 = .ok (.iaload, 1) := by decide +kernel
theorem dL_law_522 : decode cL_law 522 = .ok (.ifCond .eq 7, 3) := by decide +kernel
theorem dL_law_525 : decode cL_law 525 = .ok (.iconst 1, 1) := by decide +kernel
theorem dL_law_526 : decode cL_law 526 = .ok (.goto 4, 3) := by decide +kernel
theorem dL_law_529 : decode cL_law 529 = .ok (.iconst 0, 1) := by decide +kernel
theorem dL_law_530 : decode cL_law 530 = .ok (.invokevirtual 61, 3) := by decide +kernel
theorem dL_law_533 : decode cL_law 533 = .ok (.lcmp, 1) := by decide +kernel
theorem dL_law_534 : decode cL_law 534 = .ok (.ifCond .eq 335, 3) := by decide +kernel
theorem dL_law_537 : decode cL_law 537 = .ok (.iconst 0, 1) := by decide +kernel
theorem dL_law_538 : decode cL_law 538 = .ok (.ireturn, 1) := by decide +kernel
theorem dL_law_539 : decode cL_law 539 = .ok (.aload_n 1, 1) := by decide +kernel
theorem dL_law_540 : decode cL_law 540 = .ok (.aload_n 0, 1) := by decide +kernel
theorem dL_law_541 : decode cL_law 541 = .ok (.iload_n 3, 1) := by decide +kernel
theorem dL_law_542 : decode cL_law 542 = .ok (.iconst 1, 1) := by decide +kernel
theorem dL_law_543 : decode cL_law 543 = .ok (.iadd, 1) := by decide +kernel
theorem dL_law_544 : decode cL_law 544 = .ok (.iaload, 1) := by decide +kernel
theorem dL_law_545 : decode cL_law 545 = .ok (.invokevirtual 62, 3) := by decide +kernel
theorem dL_law_548 : decode cL_law 548 = .ok (.aload_n 2, 1) := by decide +kernel
theorem dL_law_549 : decode cL_law 549 = .ok (.aload_n 0, 1) := by decide +kernel
theorem dL_law_550 : decode cL_law 550 = .ok (.iload_n 3, 1) := by decide +kernel
theorem dL_law_551 : decode cL_law 551 = .ok (.iconst 1, 1) := by decide +kernel
theorem dL_law_552 : decode cL_law 552 = .ok (.iadd, 1) := by decide +kernel
theorem dL_law_553 : decode cL_law 553 = .ok (.iaload, 1) := by decide +kernel
theorem dL_law_554 : decode cL_law 554 = .ok (.invokevirtual 65, 3) := by decide +kernel
theorem dL_law_557 : decode cL_law 557 = .ok (.if_icmp .eq 312, 3) := by decide +kernel
theorem dL_law_560 : decode cL_law 560 = .ok (.iconst 0, 1) := by decide +kernel
theorem dL_law_561 : decode cL_law 561 = .ok (.ireturn, 1) := by decide +kernel
theorem dL_law_562 : decode cL_law 562 = .ok (.aload_n 1, 1) := by decide +kernel
theorem dL_law_563 : decode cL_law 563 = .ok (.invokevirtual 66, 3) := by decide +kernel
theorem dL_law_566 : decode cL_law 566 = .ok (.aload_n 2, 1) := by decide +kernel
theorem dL_law_567 : decode cL_law 567 = .ok (.invokevirtual 70, 3) := by decide +kernel
theorem dL_law_570 : decode cL_law 570 = .ok (.if_icmp .eq 299, 3) := by decide +kernel
theorem dL_law_573 : decode cL_law 573 = .ok (.iconst 0, 1) := by decide +kernel
theorem dL_law_574 : decode cL_law 574 = .ok (.ireturn, 1) := by decide +kernel
theorem dL_law_575 : decode cL_law 575 = .ok (.aload_n 1, 1) := by decide +kernel
theorem dL_law_576 : decode cL_law 576 = .ok (.aload_n 0, 1) := by decide +kernel
theorem dL_law_577 : decode cL_law 577 = .ok (.iload_n 3, 1) := by decide +kernel
theorem dL_law_578 : decode cL_law 578 = .ok (.iconst 1, 1) := by decide +kernel
theorem dL_law_579 : decode cL_law 579 = .ok (.iadd, 1) := by decide +kernel
theorem dL_law_580 : decode cL_law 580 = .ok (.iaload, 1) := by decide +kernel
theorem dL_law_581 : decode cL_law 581 = .ok (.aload_n 0, 1) := by decide +kernel
theorem dL_law_582 : decode cL_law 582 = .ok (.iload_n 3, 1) := by decide +kernel
theorem dL_law_583 : decode cL_law 583 = .ok (.iconst 2, 1) := by decide +kernel
theorem dL_law_584 : decode cL_law 584 = .ok (.iadd, 1) := by decide +kernel
theorem dL_law_585 : decode cL_law 585 = .ok (.iaload, 1) := by decide +kernel
theorem dL_law_586 : decode cL_law 586 = .ok (.invokevirtual 71, 3) := by decide +kernel
theorem dL_law_589 : decode cL_law 589 = .ok (.aload_n 2, 1) := by decide +kernel
theorem dL_law_590 : decode cL_law 590 = .ok (.aload_n 0, 1) := by decide +kernel
theorem dL_law_591 : decode cL_law 591 = .ok (.iload_n 3, 1) := by decide +kernel
theorem dL_law_592 : decode cL_law 592 = .ok (.iconst 1, 1) := by decide +kernel
theorem dL_law_593 : decode cL_law 593 = .ok (.iadd, 1) := by decide +kernel
theorem dL_law_594 : decode cL_law 594 = .ok (.iaload, 1) := by decide +kernel
theorem dL_law_595 : decode cL_law 595 = .ok (.aload_n 0, 1) := by decide +kernel
theorem dL_law_596 : decode cL_law 596 = .ok (.iload_n 3, 1) := by decide +kernel
theorem dL_law_597 : decode cL_law 597 = .ok (.iconst 2, 1) := by decide +kernel
theorem dL_law_598 : decode cL_law 598 = .ok (.iadd, 1) := by decide +kernel
theorem dL_law_599 : decode cL_law 599 = .ok (.iaload, 1) := by decide +kernel
theorem dL_law_600 : decode cL_law 600 = .ok (.invokevirtual 74, 3) := by decide +kernel
theorem dL_law_603 : decode cL_law 603 = .ok (.if_icmp .eq 266, 3) := by decide +kernel
theorem dL_law_606 : decode cL_law 606 = .ok (.iconst 0, 1) := by decide +kernel
theorem dL_law_607 : decode cL_law 607 = .ok (.ireturn, 1) := by decide +kernel
theorem dL_law_608 : decode cL_law 608 = .ok (.aload_n 1, 1) := by decide +kernel
theorem dL_law_609 : decode cL_law 609 = .ok (.aload_n 0, 1) := by decide +kernel
theorem dL_law_610 : decode cL_law 610 = .ok (.iload_n 3, 1) := by decide +kernel
theorem dL_law_611 : decode cL_law 611 = .ok (.iconst 1, 1) := by decide +kernel
theorem dL_law_612 : decode cL_law 612 = .ok (.iadd, 1) := by decide +kernel
theorem dL_law_613 : decode cL_law 613 = .ok (.iaload, 1) := by decide +kernel
theorem dL_law_614 : decode cL_law 614 = .ok (.invokevirtual 75, 3) := by decide +kernel
theorem dL_law_617 : decode cL_law 617 = .ok (.aload_n 2, 1) := by decide +kernel
theorem dL_law_618 : decode cL_law 618 = .ok (.aload_n 0, 1) := by decide +kernel
theorem dL_law_619 : decode cL_law 619 = .ok (.iload_n 3, 1) := by decide +kernel
theorem dL_law_620 : decode cL_law 620 = .ok (.iconst 1, 1) := by decide +kernel
theorem dL_law_621 : decode cL_law 621 = .ok (.iadd, 1) := by decide +kernel
theorem dL_law_622 : decode cL_law 622 = .ok (.iaload, 1) := by decide +kernel
theorem dL_law_623 : decode cL_law 623 = .ok (.invokevirtual 78, 3) := by decide +kernel
theorem dL_law_626 : decode cL_law 626 = .ok (.if_icmp .eq 243, 3) := by decide +kernel
theorem dL_law_629 : decode cL_law 629 = .ok (.iconst 0, 1) := by decide +kernel
theorem dL_law_630 : decode cL_law 630 = .ok (.ireturn, 1) := by decide +kernel
theorem dL_law_631 : decode cL_law 631 = .ok (.aload_n 1, 1) := by decide +kernel
theorem dL_law_632 : decode cL_law 632 = .ok (.invokevirtual 79, 3) := by decide +kernel
theorem dL_law_635 : decode cL_law 635 = .ok (.aload_n 2, 1) := by decide +kernel
theorem dL_law_636 : decode cL_law 636 = .ok (.invokevirtual 82, 3) := by decide +kernel
theorem dL_law_639 : decode cL_law 639 = .ok (.if_icmp .eq 230, 3) := by decide +kernel
theorem dL_law_642 : decode cL_law 642 = .ok (.iconst 0, 1) := by decide +kernel
theorem dL_law_643 : decode cL_law 643 = .ok (.ireturn, 1) := by decide +kernel
theorem dL_law_644 : decode cL_law 644 = .ok (.aload_n 1, 1) := by decide +kernel
theorem dL_law_645 : decode cL_law 645 = .ok (.aload_n 0, 1) := by decide +kernel
theorem dL_law_646 : decode cL_law 646 = .ok (.iload_n 3, 1) := by decide +kernel
theorem dL_law_647 : decode cL_law 647 = .ok (.iconst 1, 1) := by decide +kernel
theorem dL_law_648 : decode cL_law 648 = .ok (.iadd, 1) := by decide +kernel
theorem dL_law_649 : decode cL_law 649 = .ok (.iaload, 1) := by decide +kernel
theorem dL_law_650 : decode cL_law 650 = .ok (.aload_n 0, 1) := by decide +kernel
theorem dL_law_651 : decode cL_law 651 = .ok (.iload_n 3, 1) := by decide +kernel
theorem dL_law_652 : decode cL_law 652 = .ok (.iconst 2, 1) := by decide +kernel
theorem dL_law_653 : decode cL_law 653 = .ok (.iadd, 1) := by decide +kernel
theorem dL_law_654 : decode cL_law 654 = .ok (.iaload, 1) := by decide +kernel
theorem dL_law_655 : decode cL_law 655 = .ok (.ifCond .eq 7, 3) := by decide +kernel
theorem dL_law_658 : decode cL_law 658 = .ok (.iconst 1, 1) := by decide +kernel
theorem dL_law_659 : decode cL_law 659 = .ok (.goto 4, 3) := by decide +kernel
theorem dL_law_662 : decode cL_law 662 = .ok (.iconst 0, 1) := by decide +kernel
theorem dL_law_663 : decode cL_law 663 = .ok (.invokevirtual 83, 3) := by decide +kernel
theorem dL_law_666 : decode cL_law 666 = .ok (.aload_n 2, 1) := by decide +kernel
theorem dL_law_667 : decode cL_law 667 = .ok (.aload_n 0, 1) := by decide +kernel
theorem dL_law_668 : decode cL_law 668 = .ok (.iload_n 3, 1) := by decide +kernel
theorem dL_law_669 : decode cL_law 669 = .ok (.iconst 1, 1) := by decide +kernel
theorem dL_law_670 : decode cL_law 670 = .ok (.iadd, 1) := by decide +kernel
theorem dL_law_671 : decode cL_law 671 = .ok (.iaload, 1) := by decide +kernel
theorem dL_law_672 : decode cL_law 672 = .ok (.aload_n 0, 1) := by decide +kernel
theorem dL_law_673 : decode cL_law 673 = .ok (.iload_n 3, 1) := by decide +kernel
theorem dL_law_674 : decode cL_law 674 = .ok (.iconst 2, 1) := by decide +kernel
theorem dL_law_675 : decode cL_law 675 = .ok (.iadd, 1) := by decide +kernel
theorem dL_law_676 : decode cL_law 676 = .ok (.iaload, 1) := by decide +kernel
theorem dL_law_677 : decode cL_law 677 = .ok (.ifCond .eq 7, 3) := by decide +kernel
theorem dL_law_680 : decode cL_law 680 = .ok (.iconst 1, 1) := by decide +kernel
theorem dL_law_681 : decode cL_law 681 = .ok (.goto 4, 3) := by decide +kernel
theorem dL_law_684 : decode cL_law 684 = .ok (.iconst 0, 1) := by decide +kernel
theorem dL_law_685 : decode cL_law 685 = .ok (.invokevirtual 87, 3) := by decide +kernel
theorem dL_law_688 : decode cL_law 688 = .ok (.if_icmp .eq 181, 3) := by decide +kernel
theorem dL_law_691 : decode cL_law 691 = .ok (.iconst 0, 1) := by decide +kernel
theorem dL_law_692 : decode cL_law 692 = .ok (.ireturn, 1) := by decide +kernel
theorem dL_law_693 : decode cL_law 693 = .ok (.aload_n 1, 1) := by decide +kernel
theorem dL_law_694 : decode cL_law 694 = .ok (.aload_n 0, 1) := by decide +kernel
theorem dL_law_695 : decode cL_law 695 = .ok (.iload_n 3, 1) := by decide +kernel
theorem dL_law_696 : decode cL_law 696 = .ok (.iconst 1, 1) := by decide +kernel
theorem dL_law_697 : decode cL_law 697 = .ok (.iadd, 1) := by decide +kernel
theorem dL_law_698 : decode cL_law 698 = .ok (.iaload, 1) := by decide +kernel
theorem dL_law_699 : decode cL_law 699 = .ok (.aload_n 0, 1) := by decide +kernel
theorem dL_law_700 : decode cL_law 700 = .ok (.iload_n 3, 1) := by decide +kernel
theorem dL_law_701 : decode cL_law 701 = .ok (.iconst 2, 1) := by decide +kernel
theorem dL_law_702 : decode cL_law 702 = .ok (.iadd, 1) := by decide +kernel
theorem dL_law_703 : decode cL_law 703 = .ok (.iaload, 1) := by decide +kernel
theorem dL_law_704 : decode cL_law 704 = .ok (.aload_n 0, 1) := by decide +kernel
theorem dL_law_705 : decode cL_law 705 = .ok (.iload_n 3, 1) := by decide +kernel
theorem dL_law_706 : decode cL_law 706 = .ok (.iconst 3, 1) := by decide +kernel
theorem dL_law_707 : decode cL_law 707 = .ok (.iadd, 1) := by decide +kernel
theorem dL_law_708 : decode cL_law 708 = .ok (.iaload, 1) := by decide +kernel
theorem dL_law_709 : decode cL_law 709 = .ok (.ifCond .eq 7, 3) := by decide +kernel
theorem dL_law_712 : decode cL_law 712 = .ok (.iconst 1, 1) := by decide +kernel
theorem dL_law_713 : decode cL_law 713 = .ok (.goto 4, 3) := by decide +kernel
theorem dL_law_716 : decode cL_law 716 = .ok (.iconst 0, 1) := by decide +kernel
theorem dL_law_717 : decode cL_law 717 = .ok (.invokevirtual 88, 3) := by decide +kernel
theorem dL_law_720 : decode cL_law 720 = .ok (.aload_n 2, 1) := by decide +kernel
theorem dL_law_721 : decode cL_law 721 = .ok (.aload_n 0, 1) := by decide +kernel
theorem dL_law_722 : decode cL_law 722 = .ok (.iload_n 3, 1) := by decide +kernel
theorem dL_law_723 : decode cL_law 723 = .ok (.iconst 1, 1) := by decide +kernel
theorem dL_law_724 : decode cL_law 724 = .ok (.iadd, 1) := by decide +kernel
theorem dL_law_725 : decode cL_law 725 = .ok (.iaload, 1) := by decide +kernel
theorem dL_law_726 : decode cL_law 726 = .ok (.aload_n 0, 1) := by decide +kernel
theorem dL_law_727 : decode cL_law 727 = .ok (.iload_n 3, 1) := by decide +kernel
theorem dL_law_728 : decode cL_law 728 = .ok (.iconst 2, 1) := by decide +kernel
theorem dL_law_729 : decode cL_law 729 = .ok (.iadd, 1) := by decide +kernel
theorem dL_law_730 : decode cL_law 730 = .ok (.iaload, 1) := by decide +kernel
theorem dL_law_731 : decode cL_law 731 = .ok (.aload_n 0, 1) := by decide +kernel
theorem dL_law_732 : decode cL_law 732 = .ok (.iload_n 3, 1) := by decide +kernel
theorem dL_law_733 : decode cL_law 733 = .ok (.iconst 3, 1) := by decide +kernel
theorem dL_law_734 : decode cL_law 734 = .ok (.iadd, 1) := by decide +kernel
theorem dL_law_735 : decode cL_law 735 = .ok (.iaload, 1) := by decide +kernel
theorem dL_law_736 : decode cL_law 736 = .ok (.ifCond .eq 7, 3) := by decide +kernel
theorem dL_law_739 : decode cL_law 739 = .ok (.iconst 1, 1) := by decide +kernel
theorem dL_law_740 : decode cL_law 740 = .ok (.goto 4, 3) := by decide +kernel
theorem dL_law_743 : decode cL_law 743 = .ok (.iconst 0, 1) := by decide +kernel
theorem dL_law_744 : decode cL_law 744 = .ok (.invokevirtual 91, 3) := by decide +kernel
theorem dL_law_747 : decode cL_law 747 = .ok (.lcmp, 1) := by decide +kernel
theorem dL_law_748 : decode cL_law 748 = .ok (.ifCond .eq 121, 3) := by decide +kernel
theorem dL_law_751 : decode cL_law 751 = .ok (.iconst 0, 1) := by decide +kernel
theorem dL_law_752 : decode cL_law 752 = .ok (.ireturn, 1) := by decide +kernel
theorem dL_law_753 : decode cL_law 753 = .ok (.aload_n 1, 1) := by decide +kernel
theorem dL_law_754 : decode cL_law 754 = .ok (.aload_n 0, 1) := by decide +kernel
theorem dL_law_755 : decode cL_law 755 = .ok (.iload_n 3, 1) := by decide +kernel
theorem dL_law_756 : decode cL_law 756 = .ok (.iconst 1, 1) := by decide +kernel
theorem dL_law_757 : decode cL_law 757 = .ok (.iadd, 1) := by decide +kernel
theorem dL_law_758 : decode cL_law 758 = .ok (.iaload, 1) := by decide +kernel
theorem dL_law_759 : decode cL_law 759 = .ok (.aload_n 0, 1) := by decide +kernel
theorem dL_law_760 : decode cL_law 760 = .ok (.iload_n 3, 1) := by decide +kernel
theorem dL_law_761 : decode cL_law 761 = .ok (.iconst 2, 1) := by decide +kernel
theorem dL_law_762 : decode cL_law 762 = .ok (.iadd, 1) := by decide +kernel
theorem dL_law_763 : decode cL_law 763 = .ok (.iaload, 1) := by decide +kernel
theorem dL_law_764 : decode cL_law 764 = .ok (.ifCond .eq 7, 3) := by decide +kernel
theorem dL_law_767 : decode cL_law 767 = .ok (.iconst 1, 1) := by decide +kernel
theorem dL_law_768 : decode cL_law 768 = .ok (.goto 4, 3) := by decide +kernel
theorem dL_law_771 : decode cL_law 771 = .ok (.iconst 0, 1) := by decide +kernel
theorem dL_law_772 : decode cL_law 772 = .ok (.invokevirtual 92, 3) := by decide +kernel
theorem dL_law_775 : decode cL_law 775 = .ok (.aload_n 2, 1) := by decide +kernel
theorem dL_law_776 : decode cL_law 776 = .ok (.aload_n 0, 1) := by decide +kernel
theorem dL_law_777 : decode cL_law 777 = .ok (.iload_n 3, 1) := by decide +kernel
theorem dL_law_778 : decode cL_law 778 = .ok (.iconst 1, 1) := by decide +kernel
theorem dL_law_779 : decode cL_law 779 = .ok (.iadd, 1) := by decide +kernel
theorem dL_law_780 : decode cL_law 780 = .ok (.iaload, 1) := by decide +kernel
theorem dL_law_781 : decode cL_law 781 = .ok (.aload_n 0, 1) := by decide +kernel
theorem dL_law_782 : decode cL_law 782 = .ok (.iload_n 3, 1) := by decide +kernel
theorem dL_law_783 : decode cL_law 783 = .ok (.iconst 2, 1) := by decide +kernel
theorem dL_law_784 : decode cL_law 784 = .ok (.iadd, 1) := by decide +kernel
theorem dL_law_785 : decode cL_law 785 = .ok (.iaload, 1) := by decide +kernel
theorem dL_law_786 : decode cL_law 786 = .ok (.ifCond .eq 7, 3) := by decide +kernel
theorem dL_law_789 : decode cL_law 789 = .ok (.iconst 1, 1) := by decide +kernel
theorem dL_law_790 : decode cL_law 790 = .ok (.goto 4, 3) := by decide +kernel
theorem dL_law_793 : decode cL_law 793 = .ok (.iconst 0, 1) := by decide +kernel
theorem dL_law_794 : decode cL_law 794 = .ok (.invokevirtual 96, 3) := by decide +kernel
theorem dL_law_797 : decode cL_law 797 = .ok (.lcmp, 1) := by decide +kernel
theorem dL_law_798 : decode cL_law 798 = .ok (.ifCond .eq 71, 3) := by decide +kernel
theorem dL_law_801 : decode cL_law 801 = .ok (.iconst 0, 1) := by decide +kernel
theorem dL_law_802 : decode cL_law 802 = .ok (.ireturn, 1) := by decide +kernel
theorem dL_law_803 : decode cL_law 803 = .ok (.aload_n 1, 1) := by decide +kernel
theorem dL_law_804 : decode cL_law 804 = .ok (.aload_n 0, 1) := by decide +kernel
theorem dL_law_805 : decode cL_law 805 = .ok (.iload_n 3, 1) := by decide +kernel
theorem dL_law_806 : decode cL_law 806 = .ok (.iconst 1, 1) := by decide +kernel
theorem dL_law_807 : decode cL_law 807 = .ok (.iadd, 1) := by decide +kernel
theorem dL_law_808 : decode cL_law 808 = .ok (.iaload, 1) := by decide +kernel
theorem dL_law_809 : decode cL_law 809 = .ok (.aload_n 0, 1) := by decide +kernel
theorem dL_law_810 : decode cL_law 810 = .ok (.iload_n 3, 1) := by decide +kernel
theorem dL_law_811 : decode cL_law 811 = .ok (.iconst 2, 1) := by decide +kernel
theorem dL_law_812 : decode cL_law 812 = .ok (.iadd, 1) := by decide +kernel
theorem dL_law_813 : decode cL_law 813 = .ok (.iaload, 1) := by decide +kernel
theorem dL_law_814 : decode cL_law 814 = .ok (.aload_n 0, 1) := by decide +kernel
theorem dL_law_815 : decode cL_law 815 = .ok (.iload_n 3, 1) := by decide +kernel
theorem dL_law_816 : decode cL_law 816 = .ok (.iconst 3, 1) := by decide +kernel
theorem dL_law_817 : decode cL_law 817 = .ok (.iadd, 1) := by decide +kernel
theorem dL_law_818 : decode cL_law 818 = .ok (.iaload, 1) := by decide +kernel
theorem dL_law_819 : decode cL_law 819 = .ok (.invokevirtual 97, 3) := by decide +kernel
theorem dL_law_822 : decode cL_law 822 = .ok (.aload_n 2, 1) := by decide +kernel
theorem dL_law_823 : decode cL_law 823 = .ok (.aload_n 0, 1) := by decide +kernel
theorem dL_law_824 : decode cL_law 824 = .ok (.iload_n 3, 1) := by decide +kernel
theorem dL_law_825 : decode cL_law 825 = .ok (.iconst 1, 1) := by decide +kernel
theorem dL_law_826 : decode cL_law 826 = .ok (.iadd, 1) := by decide +kernel
theorem dL_law_827 : decode cL_law 827 = .ok (.iaload, 1) := by decide +kernel
theorem dL_law_828 : decode cL_law 828 = .ok (.aload_n 0, 1) := by decide +kernel
theorem dL_law_829 : decode cL_law 829 = .ok (.iload_n 3, 1) := by decide +kernel
theorem dL_law_830 : decode cL_law 830 = .ok (.iconst 2, 1) := by decide +kernel
theorem dL_law_831 : decode cL_law 831 = .ok (.iadd, 1) := by decide +kernel
theorem dL_law_832 : decode cL_law 832 = .ok (.iaload, 1) := by decide +kernel
theorem dL_law_833 : decode cL_law 833 = .ok (.aload_n 0, 1) := by decide +kernel
theorem dL_law_834 : decode cL_law 834 = .ok (.iload_n 3, 1) := by decide +kernel
theorem dL_law_835 : decode cL_law 835 = .ok (.iconst 3, 1) := by decide +kernel
theorem dL_law_836 : decode cL_law 836 = .ok (.iadd, 1) := by decide +kernel
theorem dL_law_837 : decode cL_law 837 = .ok (.iaload, 1) := by decide +kernel
theorem dL_law_838 : decode cL_law 838 = .ok (.invokevirtual 100, 3) := by decide +kernel
theorem dL_law_841 : decode cL_law 841 = .ok (.if_icmp .eq 28, 3) := by decide +kernel
theorem dL_law_844 : decode cL_law 844 = .ok (.iconst 0, 1) := by decide +kernel
theorem dL_law_845 : decode cL_law 845 = .ok (.ireturn, 1) := by decide +kernel
theorem dL_law_846 : decode cL_law 846 = .ok (.aload_n 1, 1) := by decide +kernel
theorem dL_law_847 : decode cL_law 847 = .ok (.aload_n 0, 1) := by decide +kernel
theorem dL_law_848 : decode cL_law 848 = .ok (.iload_n 3, 1) := by decide +kernel
theorem dL_law_849 : decode cL_law 849 = .ok (.iconst 1, 1) := by decide +kernel
theorem dL_law_850 : decode cL_law 850 = .ok (.iadd, 1) := by decide +kernel
theorem dL_law_851 : decode cL_law 851 = .ok (.iaload, 1) := by decide +kernel
theorem dL_law_852 : decode cL_law 852 = .ok (.invokevirtual 101, 3) := by decide +kernel
theorem dL_law_855 : decode cL_law 855 = .ok (.aload_n 2, 1) := by decide +kernel
theorem dL_law_856 : decode cL_law 856 = .ok (.aload_n 0, 1) := by decide +kernel
theorem dL_law_857 : decode cL_law 857 = .ok (.iload_n 3, 1) := by decide +kernel
theorem dL_law_858 : decode cL_law 858 = .ok (.iconst 1, 1) := by decide +kernel
theorem dL_law_859 : decode cL_law 859 = .ok (.iadd, 1) := by decide +kernel
theorem dL_law_860 : decode cL_law 860 = .ok (.iaload, 1) := by decide +kernel
theorem dL_law_861 : decode cL_law 861 = .ok (.invokevirtual 104, 3) := by decide +kernel
theorem dL_law_864 : decode cL_law 864 = .ok (.if_icmp .eq 5, 3) := by decide +kernel
theorem dL_law_867 : decode cL_law 867 = .ok (.iconst 0, 1) := by decide +kernel
theorem dL_law_868 : decode cL_law 868 = .ok (.ireturn, 1) := by decide +kernel
theorem dL_law_869 : decode cL_law 869 = .ok (.iinc 3 5, 3) := by decide +kernel
theorem dL_law_872 : decode cL_law 872 = .ok (.goto (-854), 3) := by decide +kernel
theorem dL_law_875 : decode cL_law 875 = .ok (.iconst 1, 1) := by decide +kernel
theorem dL_law_876 : decode cL_law 876 = .ok (.ireturn, 1) := by decide +kernel
