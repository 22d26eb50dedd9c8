theorem dX3_init_1 : decode cX3_init 1 = .ok (.invokespecial 1, 3) := by decide +kernel
theorem dX3_init_4 : decode cX3_init 4 = .ok (.aload_n 0, 1) := by decide +kernel
theorem dX3_init_5 : decode cX3_init 5 = .ok (.new 7, 3) := by decide +kernel
theorem dX3_init_8 : decode cX3_init 8 = .ok (.dup, 1) := by decide +kernel
theorem dX3_init_9 : decode cX3_init 9 = .ok (.invokespecial 9, 3) := by decide +kernel
theorem dX3_init_12 : decode cX3_init 12 = .ok (.putfield 10, 3) := by decide +kernel
theorem dX3_init_15 : decode cX3_init 15 = .ok (.aload_n 0, 1) := by decide +kernel
theorem dX3_init_16 : decode cX3_init 16 = .ok (.new 16, 3) := by decide +kernel
theorem dX3_init_19 : decode cX3_init 19 = .ok (.dup, 1) := by decide +kernel
theorem dX3_init_20 : decode cX3_init 20 = .ok (.invokespecial 18, 3) := by decide +kernel
theorem dX3_init_23 : decode cX3_init 23 = .ok (.putfield 19, 3) := by decide +kernel
theorem dX3_init_26 : decode cX3_init 26 = .ok (.aload_n 0, 1) := by decide +kernel
theorem dX3_init_27 : decode cX3_init 27 = .ok (.new 16, 3) := by decide +kernel
theorem dX3_init_30 : decode cX3_init 30 = .ok (.dup, 1) := by decide +kernel
theorem dX3_init_31 : decode cX3_init 31 = .ok (.invokespecial 18, 3) := by decide +kernel
theorem dX3_init_34 : decode cX3_init 34 = .ok (.putfield 23, 3) := by decide +kernel
theorem dX3_init_37 : decode cX3_init 37 = .ok (.aload_n 0, 1) := by decide +kernel
theorem dX3_init_38 : decode cX3_init 38 = .ok (.new 26, 3) := by decide +kernel
theorem dX3_init_41 : decode cX3_init 41 = .ok (.dup, 1) := by decide +kernel
theorem dX3_init_42 : decode cX3_init 42 = .ok (.invokespecial 28, 3) := by decide +kernel
theorem dX3_init_45 : decode cX3_init 45 = .ok (.putfield 29, 3) := by decide +kernel
theorem dX3_init_48 : decode cX3_init 48 = .ok (.aload_n 0, 1) := by decide +kernel
theorem dX3_init_49 : decode cX3_init 49 = .ok (.iconst 0, 1) := by decide +kernel
theorem dX3_init_50 : decode cX3_init 50 = .ok (.putfield 33, 3) := by decide +kernel
theorem dX3_init_53 : decode cX3_init 53 = .ok (.aload_n 0, 1) := by decide +kernel
theorem dX3_init_54 : decode cX3_init 54 = .ok (.iconst 0, 1) := by decide +kernel
theorem dX3_init_55 : decode cX3_init 55 = .ok (.putfield 37, 3) := by decide +kernel
theorem dX3_init_58 : decode cX3_init 58 = .ok (.return_, 1) := by decide +kernel
theorem dX3_players_0 : decode cX3_players 0 = .ok (.iload_n 1, 1) := by decide +kernel
theorem dX3_players_1 : decode cX3_players 1 = .ok (.iconst 2, 1) := by decide +kernel
theorem dX3_players_2 : decode cX3_players 2 = .ok (.if_icmp .lt 9, 3) := by decide +kernel
theorem dX3_players_5 : decode cX3_players 5 = .ok (.iload_n 1, 1) := by decide +kernel
theorem dX3_players_6 : decode cX3_players 6 = .ok (.bipush 8, 2) := by decide +kernel
theorem dX3_players_8 : decode cX3_players 8 = .ok (.if_icmp .le 6, 3) := by decide +kernel
theorem dX3_players_11 : decode cX3_players 11 = .ok (.bipush (-2), 2) := by decide +kernel
theorem dX3_players_13 : decode cX3_players 13 = .ok (.ireturn, 1) := by decide +kernel
theorem dX3_players_14 : decode cX3_players 14 = .ok (.aload_n 0, 1) := by decide +kernel
theorem dX3_players_15 : decode cX3_players 15 = .ok (.getfield 10, 3) := by decide +kernel
theorem dX3_players_18 : decode cX3_players 18 = .ok (.getfield 40, 3) := by decide +kernel
theorem dX3_players_21 : decode cX3_players 21 = .ok (.istore_n 2, 1) := by decide +kernel
theorem dX3_players_22 : decode cX3_players 22 = .ok (.aload_n 0, 1) := by decide +kernel
theorem dX3_players_23 : decode cX3_players 23 = .ok (.getfield 10, 3) := by decide +kernel
theorem dX3_players_26 : decode cX3_players 26 = .ok (.iload_n 1, 1) := by decide +kernel
theorem dX3_players_27 : decode cX3_players 27 = .ok (.invokevirtual 44, 3) := by decide +kernel
theorem dX3_players_30 : decode cX3_players 30 = .ok (.aload_n 0, 1) := by decide +kernel
theorem dX3_players_31 : decode cX3_players 31 = .ok (.getfield 19, 3) := by decide +kernel
theorem dX3_players_34 : decode cX3_players 34 = .ok (.invokevirtual 48, 3) := by decide +kernel
theorem dX3_players_37 : decode cX3_players 37 = .ok (.aload_n 0, 1) := by decide +kernel
theorem dX3_players_38 : decode cX3_players 38 = .ok (.iconst 0, 1) := by decide +kernel
theorem dX3_players_39 : decode cX3_players 39 = .ok (.putfield 33, 3) := by decide +kernel
theorem dX3_players_42 : decode cX3_players 42 = .ok (.iload_n 2, 1) := by decide +kernel
theorem dX3_players_43 : decode cX3_players 43 = .ok (.ireturn, 1) := by decide +kernel
theorem dX3_chance_0 : decode cX3_chance 0 = .ok (.aload_n 0, 1) := by decide +kernel
theorem dX3_chance_1 : decode cX3_chance 1 = .ok (.getfield 10, 3) := by decide +kernel
theorem dX3_chance_4 : decode cX3_chance 4 = .ok (.iload_n 1, 1) := by decide +kernel
theorem dX3_chance_5 : decode cX3_chance 5 = .ok (.invokevirtual 51, 3) := by decide +kernel
theorem dX3_chance_8 : decode cX3_chance 8 = .ok (.ifCond .eq 14, 3) := by decide +kernel
theorem dX3_chance_11 : decode cX3_chance 11 = .ok (.aload_n 0, 1) := by decide +kernel
theorem dX3_chance_12 : decode cX3_chance 12 = .ok (.getfield 10, 3) := by decide +kernel
theorem dX3_chance_15 : decode cX3_chance 15 = .ok (.iload_n 2, 1) := by decide +kernel
theorem dX3_chance_16 : decode cX3_chance 16 = .ok (.invokevirtual 51, 3) := by decide +kernel
theorem dX3_chance_19 : decode cX3_chance 19 = .ok (.ifCond .ne 5, 3) := by decide +kernel
theorem dX3_chance_22 : decode cX3_chance 22 = .ok (.iconst (-1), 1) := by decide +kernel
theorem dX3_chance_23 : decode cX3_chance 23 = .ok (.ireturn, 1) := by decide +kernel
theorem dX3_chance_24 : decode cX3_chance 24 = .ok (.iload_n 3, 1) := by decide +kernel
theorem dX3_chance_25 : decode cX3_chance 25 = .ok (.ifCond .lt 9, 3) := by decide +kernel
theorem dX3_chance_28 : decode cX3_chance 28 = .ok (.iload_n 3, 1) := by decide +kernel
theorem dX3_chance_29 : decode cX3_chance 29 = .ok (.bipush 12, 2) := by decide +kernel
theorem dX3_chance_31 : decode cX3_chance 31 = .ok (.if_icmp .le 6, 3) := by decide +kernel
theorem dX3_chance_34 : decode cX3_chance 34 = .ok (.bipush (-2), 2) := by decide +kernel
theorem dX3_chance_36 : decode cX3_chance 36 = .ok (.ireturn, 1) := by decide +kernel
theorem dX3_chance_37 : decode cX3_chance 37 = .ok (.iload_n 1, 1) := by decide +kernel
theorem dX3_chance_38 : decode cX3_chance 38 = .ok (.iload_n 2, 1) := by decide +kernel
theorem dX3_chance_39 : decode cX3_chance 39 = .ok (.if_icmp .ne 6, 3) := by decide +kernel
theorem dX3_chance_42 : decode cX3_chance 42 = .ok (.bipush (-3), 2) := by decide +kernel
theorem dX3_chance_44 : decode cX3_chance 44 = .ok (.ireturn, 1) := by decide +kernel
theorem dX3_chance_45 : decode cX3_chance 45 = .ok (.aload_n 0, 1) := by decide +kernel
theorem dX3_chance_46 : decode cX3_chance 46 = .ok (.getfield 10, 3) := by decide +kernel
theorem dX3_chance_49 : decode cX3_chance 49 = .ok (.iload_n 1, 1) := by decide +kernel
theorem dX3_chance_50 : decode cX3_chance 50 = .ok (.iload_n 2, 1) := by decide +kernel
theorem dX3_chance_51 : decode cX3_chance 51 = .ok (.invokevirtual 55, 3) := by decide +kernel
theorem dX3_chance_54 : decode cX3_chance 54 = .ok (.istore 4, 2) := by decide +kernel
theorem dX3_chance_56 : decode cX3_chance 56 = .ok (.aload_n 0, 1) := by decide +kernel
theorem dX3_chance_57 : decode cX3_chance 57 = .ok (.getfield 10, 3) := by decide +kernel
theorem dX3_chance_60 : decode cX3_chance 60 = .ok (.iload_n 1, 1) := by decide +kernel
theorem dX3_chance_61 : decode cX3_chance 61 = .ok (.iload_n 2, 1) := by decide +kernel
theorem dX3_chance_62 : decode cX3_chance 62 = .ok (.iload_n 3, 1) := by decide +kernel
theorem dX3_chance_63 : decode cX3_chance 63 = .ok (.invokevirtual 59, 3) := by decide +kernel
theorem dX3_chance_66 : decode cX3_chance 66 = .ok (.aload_n 0, 1) := by decide +kernel
theorem dX3_chance_67 : decode cX3_chance 67 = .ok (.iconst 0, 1) := by decide +kernel
theorem dX3_chance_68 : decode cX3_chance 68 = .ok (.putfield 37, 3) := by decide +kernel
theorem dX3_chance_71 : decode cX3_chance 71 = .ok (.iload 4, 2) := by decide +kernel
theorem dX3_chance_73 : decode cX3_chance 73 = .ok (.ireturn, 1) := by decide +kernel
theorem dX3_apart_0 : decode cX3_apart 0 = .ok (.aload_n 0, 1) := by decide +kernel
theorem dX3_apart_1 : decode cX3_apart 1 = .ok (.getfield 10, 3) := by decide +kernel
theorem dX3_apart_4 : decode cX3_apart 4 = .ok (.iload_n 1, 1) := by decide +kernel
theorem dX3_apart_5 : decode cX3_apart 5 = .ok (.invokevirtual 51, 3) := by decide +kernel
theorem dX3_apart_8 : decode cX3_apart 8 = .ok (.ifCond .eq 14, 3) := by decide +kernel
theorem dX3_apart_11 : decode cX3_apart 11 = .ok (.aload_n 0, 1) := by decide +kernel
theorem dX3_apart_12 : decode cX3_apart 12 = .ok (.getfield 10, 3) := by decide +kernel
theorem dX3_apart_15 : decode cX3_apart 15 = .ok (.iload_n 2, 1) := by decide +kernel
theorem dX3_apart_16 : decode cX3_apart 16 = .ok (.invokevirtual 51, 3) := by decide +kernel
theorem dX3_apart_19 : decode cX3_apart 19 = .ok (.ifCond .ne 5, 3) := by decide +kernel
theorem dX3_apart_22 : decode cX3_apart 22 = .ok (.iconst (-1), 1) := by decide +kernel
theorem dX3_apart_23 : decode cX3_apart 23 = .ok (.ireturn, 1) := by decide +kernel
theorem dX3_apart_24 : decode cX3_apart 24 = .ok (.iload_n 3, 1) := by decide +kernel
theorem dX3_apart_25 : decode cX3_apart 25 = .ok (.iconst 1, 1) := by decide +kernel
theorem dX3_apart_26 : decode cX3_apart 26 = .ok (.if_icmp .lt 8, 3) := by decide +kernel
theorem dX3_apart_29 : decode cX3_apart 29 = .ok (.iload_n 3, 1) := by decide +kernel
theorem dX3_apart_30 : decode cX3_apart 30 = .ok (.iconst 3, 1) := by decide +kernel
theorem dX3_apart_31 : decode cX3_apart 31 = .ok (.if_icmp .le 6, 3) := by decide +kernel
theorem dX3_apart_34 : decode cX3_apart 34 = .ok (.bipush (-2), 2) := by decide +kernel
theorem dX3_apart_36 : decode cX3_apart 36 = .ok (.ireturn, 1) := by decide +kernel
theorem dX3_apart_37 : decode cX3_apart 37 = .ok (.iload_n 1, 1) := by decide +kernel
theorem dX3_apart_38 : decode cX3_apart 38 = .ok (.iload_n 2, 1) := by decide +kernel
theorem dX3_apart_39 : decode cX3_apart 39 = .ok (.if_icmp .ne 6, 3) := by decide +kernel
theorem dX3_apart_42 : decode cX3_apart 42 = .ok (.bipush (-3), 2) := by decide +kernel
theorem dX3_apart_44 : decode cX3_apart 44 = .ok (.ireturn, 1) := by decide +kernel
theorem dX3_apart_45 : decode cX3_apart 45 = .ok (.aload_n 0, 1) := by decide +kernel
theorem dX3_apart_46 : decode cX3_apart 46 = .ok (.getfield 10, 3) := by decide +kernel
theorem dX3_apart_49 : decode cX3_apart 49 = .ok (.iload_n 1, 1) := by decide +kernel
theorem dX3_apart_50 : decode cX3_apart 50 = .ok (.iload_n 2, 1) := by decide +kernel
theorem dX3_apart_51 : decode cX3_apart 51 = .ok (.invokevirtual 63, 3) := by decide +kernel
theorem dX3_apart_54 : decode cX3_apart 54 = .ok (.istore 4, 2) := by decide +kernel
theorem dX3_apart_56 : decode cX3_apart 56 = .ok (.aload_n 0, 1) := by decide +kernel
theorem dX3_apart_57 : decode cX3_apart 57 = .ok (.getfield 10, 3) := by decide +kernel
theorem dX3_apart_60 : decode cX3_apart 60 = .ok (.iload_n 1, 1) := by decide +kernel
theorem dX3_apart_61 : decode cX3_apart 61 = .ok (.iload_n 2, 1) := by decide +kernel
theorem dX3_apart_62 : decode cX3_apart 62 = .ok (.iload_n 3, 1) := by decide +kernel
theorem dX3_apart_63 : decode cX3_apart 63 = .ok (.invokevirtual 66, 3) := by decide +kernel
theorem dX3_apart_66 : decode cX3_apart 66 = .ok (.aload_n 0, 1) := by decide +kernel
theorem dX3_apart_67 : decode cX3_apart 67 = .ok (.iconst 0, 1) := by decide +kernel
theorem dX3_apart_68 : decode cX3_apart 68 = .ok (.putfield 33, 3) := by decide +kernel
theorem dX3_apart_71 : decode cX3_apart 71 = .ok (.iload 4, 2) := by decide +kernel
theorem dX3_apart_73 : decode cX3_apart 73 = .ok (.ireturn, 1) := by decide +kernel
theorem dX3_cup_0 : decode cX3_cup 0 = .ok (.iload_n 1, 1) := by decide +kernel
theorem dX3_cup_1 : decode cX3_cup 1 = .ok (.iconst 2, 1) := by decide +kernel
theorem dX3_cup_2 : decode cX3_cup 2 = .ok (.if_icmp .eq 17, 3) := by decide +kernel
theorem dX3_cup_5 : decode cX3_cup 5 = .ok (.iload_n 1, 1) := by decide +kernel
theorem dX3_cup_6 : decode cX3_cup 6 = .ok (.iconst 4, 1) := by decide +kernel
theorem dX3_cup_7 : decode cX3_cup 7 = .ok (.if_icmp .eq 12, 3) := by decide +kernel
theorem dX3_cup_10 : decode cX3_cup 10 = .ok (.iload_n 1, 1) := by decide +kernel
theorem dX3_cup_11 : decode cX3_cup 11 = .ok (.bipush 8, 2) := by decide +kernel
theorem dX3_cup_13 : decode cX3_cup 13 = .ok (.if_icmp .eq 6, 3) := by decide +kernel
theorem dX3_cup_16 : decode cX3_cup 16 = .ok (.bipush (-2), 2) := by decide +kernel
theorem dX3_cup_18 : decode cX3_cup 18 = .ok (.ireturn, 1) := by decide +kernel
theorem dX3_cup_19 : decode cX3_cup 19 = .ok (.aload_n 0, 1) := by decide +kernel
theorem dX3_cup_20 : decode cX3_cup 20 = .ok (.getfield 19, 3) := by decide +kernel
theorem dX3_cup_23 : decode cX3_cup 23 = .ok (.getfield 69, 3) := by decide +kernel
theorem dX3_cup_26 : decode cX3_cup 26 = .ok (.istore_n 2, 1) := by decide +kernel
theorem dX3_cup_27 : decode cX3_cup 27 = .ok (.aload_n 0, 1) := by decide +kernel
theorem dX3_cup_28 : decode cX3_cup 28 = .ok (.getfield 19, 3) := by decide +kernel
theorem dX3_cup_31 : decode cX3_cup 31 = .ok (.iload_n 1, 1) := by decide +kernel
theorem dX3_cup_32 : decode cX3_cup 32 = .ok (.invokevirtual 72, 3) := by decide +kernel
theorem dX3_cup_35 : decode cX3_cup 35 = .ok (.aload_n 0, 1) := by decide +kernel
theorem dX3_cup_36 : decode cX3_cup 36 = .ok (.iconst 0, 1) := by decide +kernel
theorem dX3_cup_37 : decode cX3_cup 37 = .ok (.putfield 33, 3) := by decide +kernel
theorem dX3_cup_40 : decode cX3_cup 40 = .ok (.iload_n 2, 1) := by decide +kernel
theorem dX3_cup_41 : decode cX3_cup 41 = .ok (.ireturn, 1) := by decide +kernel
theorem dX3_put_0 : decode cX3_put 0 = .ok (.aload_n 0, 1) := by decide +kernel
theorem dX3_put_1 : decode cX3_put 1 = .ok (.getfield 19, 3) := by decide +kernel
theorem dX3_put_4 : decode cX3_put 4 = .ok (.iload_n 1, 1) := by decide +kernel
theorem dX3_put_5 : decode cX3_put 5 = .ok (.invokevirtual 75, 3) := by decide +kernel
theorem dX3_put_8 : decode cX3_put 8 = .ok (.ifCond .eq 20, 3) := by decide +kernel
theorem dX3_put_11 : decode cX3_put 11 = .ok (.iload_n 2, 1) := by decide +kernel
theorem dX3_put_12 : decode cX3_put 12 = .ok (.bipush (-9), 2) := by decide +kernel
theorem dX3_put_14 : decode cX3_put 14 = .ok (.if_icmp .eq 16, 3) := by decide +kernel
theorem dX3_put_17 : decode cX3_put 17 = .ok (.aload_n 0, 1) := by decide +kernel
theorem dX3_put_18 : decode cX3_put 18 = .ok (.getfield 10, 3) := by decide +kernel
theorem dX3_put_21 : decode cX3_put 21 = .ok (.iload_n 2, 1) := by decide +kernel
theorem dX3_put_22 : decode cX3_put 22 = .ok (.invokevirtual 51, 3) := by decide +kernel
theorem dX3_put_25 : decode cX3_put 25 = .ok (.ifCond .ne 5, 3) := by decide +kernel
theorem dX3_put_28 : decode cX3_put 28 = .ok (.iconst (-1), 1) := by decide +kernel
theorem dX3_put_29 : decode cX3_put 29 = .ok (.ireturn, 1) := by decide +kernel
theorem dX3_put_30 : decode cX3_put 30 = .ok (.iload_n 2, 1) := by decide +kernel
theorem dX3_put_31 : decode cX3_put 31 = .ok (.bipush (-9), 2) := by decide +kernel
theorem dX3_put_33 : decode cX3_put 33 = .ok (.if_icmp .ne 8, 3) := by decide +kernel
theorem dX3_put_36 : decode cX3_put 36 = .ok (.bipush 8, 2) := by decide +kernel
theorem dX3_put_38 : decode cX3_put 38 = .ok (.goto 4, 3) := by decide +kernel
theorem dX3_put_41 : decode cX3_put 41 = .ok (.iload_n 2, 1) := by decide +kernel
theorem dX3_put_42 : decode cX3_put 42 = .ok (.istore_n 3, 1) := by decide +kernel
theorem dX3_put_43 : decode cX3_put 43 = .ok (.aload_n 0, 1) := by decide +kernel
theorem dX3_put_44 : decode cX3_put 44 = .ok (.getfield 19, 3) := by decide +kernel
theorem dX3_put_47 : decode cX3_put 47 = .ok (.iload_n 3, 1) := by decide +kernel
theorem dX3_put_48 : decode cX3_put 48 = .ok (.invokevirtual 78, 3) := by decide +kernel
theorem dX3_put_51 : decode cX3_put 51 = .ok (.istore 4, 2) := by decide +kernel
theorem dX3_put_53 : decode cX3_put 53 = .ok (.iload 4, 2) := by decide +kernel
theorem dX3_put_55 : decode cX3_put 55 = .ok (.iconst (-1), 1) := by decide +kernel
theorem dX3_put_56 : decode cX3_put 56 = .ok (.if_icmp .eq 12, 3) := by decide +kernel
theorem dX3_put_59 : decode cX3_put 59 = .ok (.iload 4, 2) := by decide +kernel
theorem dX3_put_61 : decode cX3_put 61 = .ok (.iload_n 1, 1) := by decide +kernel
theorem dX3_put_62 : decode cX3_put 62 = .ok (.if_icmp .eq 6, 3) := by decide +kernel
theorem dX3_put_65 : decode cX3_put 65 = .ok (.bipush (-3), 2) := by decide +kernel
theorem dX3_put_67 : decode cX3_put 67 = .ok (.ireturn, 1) := by decide +kernel
theorem dX3_put_68 : decode cX3_put 68 = .ok (.aload_n 0, 1) := by decide +kernel
theorem dX3_put_69 : decode cX3_put 69 = .ok (.getfield 19, 3) := by decide +kernel
theorem dX3_put_72 : decode cX3_put 72 = .ok (.iload_n 1, 1) := by decide +kernel
theorem dX3_put_73 : decode cX3_put 73 = .ok (.invokevirtual 82, 3) := by decide +kernel
theorem dX3_put_76 : decode cX3_put 76 = .ok (.istore 5, 2) := by decide +kernel
theorem dX3_put_78 : decode cX3_put 78 = .ok (.aload_n 0, 1) := by decide +kernel
theorem dX3_put_79 : decode cX3_put 79 = .ok (.getfield 19, 3) := by decide +kernel
theorem dX3_put_82 : decode cX3_put 82 = .ok (.iload_n 1, 1) := by decide +kernel
theorem dX3_put_83 : decode cX3_put 83 = .ok (.iload_n 3, 1) := by decide +kernel
theorem dX3_put_84 : decode cX3_put 84 = .ok (.invokevirtual 85, 3) := by decide +kernel
theorem dX3_put_87 : decode cX3_put 87 = .ok (.aload_n 0, 1) := by decide +kernel
theorem dX3_put_88 : decode cX3_put 88 = .ok (.getfield 19, 3) := by decide +kernel
theorem dX3_put_91 : decode cX3_put 91 = .ok (.invokevirtual 89, 3) := by decide +kernel
theorem dX3_put_94 : decode cX3_put 94 = .ok (.iload 5, 2) := by decide +kernel
theorem dX3_put_96 : decode cX3_put 96 = .ok (.invokestatic 92, 3) := by decide +kernel
theorem dX3_put_99 : decode cX3_put 99 = .ok (.ireturn, 1) := by decide +kernel
theorem dX3_at_0 : decode cX3_at 0 = .ok (.aload_n 0, 1) := by decide +kernel
theorem dX3_at_1 : decode cX3_at 1 = .ok (.getfield 19, 3) := by decide +kernel
theorem dX3_at_4 : decode cX3_at 4 = .ok (.iload_n 1, 1) := by decide +kernel
theorem dX3_at_5 : decode cX3_at 5 = .ok (.invokevirtual 75, 3) := by decide +kernel
theorem dX3_at_8 : decode cX3_at 8 = .ok (.ifCond .eq 17, 3) := by decide +kernel
theorem dX3_at_11 : decode cX3_at 11 = .ok (.aload_n 0, 1) := by decide +kernel
theorem dX3_at_12 : decode cX3_at 12 = .ok (.getfield 19, 3) := by decide +kernel
theorem dX3_at_15 : decode cX3_at 15 = .ok (.iload_n 1, 1) := by decide +kernel
theorem dX3_at_16 : decode cX3_at 16 = .ok (.invokevirtual 82, 3) := by decide +kernel
theorem dX3_at_19 : decode cX3_at 19 = .ok (.invokestatic 92, 3) := by decide +kernel
theorem dX3_at_22 : decode cX3_at 22 = .ok (.goto 4, 3) := by decide +kernel
theorem dX3_at_25 : decode cX3_at 25 = .ok (.iconst (-1), 1) := by decide +kernel
theorem dX3_at_26 : decode cX3_at 26 = .ok (.ireturn, 1) := by decide +kernel
theorem dX3_won_0 : decode cX3_won 0 = .ok (.aload_n 0, 1) := by decide +kernel
theorem dX3_won_1 : decode cX3_won 1 = .ok (.getfield 19, 3) := by decide +kernel
theorem dX3_won_4 : decode cX3_won 4 = .ok (.iload_n 1, 1) := by decide +kernel
theorem dX3_won_5 : decode cX3_won 5 = .ok (.invokevirtual 95, 3) := by decide +kernel
theorem dX3_won_8 : decode cX3_won 8 = .ok (.ifCond .eq 14, 3) := by decide +kernel
theorem dX3_won_11 : decode cX3_won 11 = .ok (.aload_n 0, 1) := by decide +kernel
theorem dX3_won_12 : decode cX3_won 12 = .ok (.getfield 10, 3) := by decide +kernel
theorem dX3_won_15 : decode cX3_won 15 = .ok (.iload_n 2, 1) := by decide +kernel
theorem dX3_won_16 : decode cX3_won 16 = .ok (.invokevirtual 51, 3) := by decide +kernel
theorem dX3_won_19 : decode cX3_won 19 = .ok (.ifCond .ne 5, 3) := by decide +kernel
theorem dX3_won_22 : decode cX3_won 22 = .ok (.iconst (-1), 1) := by decide +kernel
theorem dX3_won_23 : decode cX3_won 23 = .ok (.ireturn, 1) := by decide +kernel
theorem dX3_won_24 : decode cX3_won 24 = .ok (.aload_n 0, 1) := by decide +kernel
theorem dX3_won_25 : decode cX3_won 25 = .ok (.getfield 19, 3) := by decide +kernel
theorem dX3_won_28 : decode cX3_won 28 = .ok (.aload_n 0, 1) := by decide +kernel
theorem dX3_won_29 : decode cX3_won 29 = .ok (.getfield 10, 3) := by decide +kernel
theorem dX3_won_32 : decode cX3_won 32 = .ok (.invokevirtual 98, 3) := by decide +kernel
theorem dX3_won_35 : decode cX3_won 35 = .ok (.aload_n 0, 1) := by decide +kernel
theorem dX3_won_36 : decode cX3_won 36 = .ok (.getfield 19, 3) := by decide +kernel
theorem dX3_won_39 : decode cX3_won 39 = .ok (.iload_n 1, 1) := by decide +kernel
theorem dX3_won_40 : decode cX3_won 40 = .ok (.invokevirtual 102, 3) := by decide +kernel
theorem dX3_won_43 : decode cX3_won 43 = .ok (.ifCond .eq 22, 3) := by decide +kernel
theorem dX3_won_46 : decode cX3_won 46 = .ok (.aload_n 0, 1) := by decide +kernel
theorem dX3_won_47 : decode cX3_won 47 = .ok (.getfield 19, 3) := by decide +kernel
theorem dX3_won_50 : decode cX3_won 50 = .ok (.iload_n 1, 1) := by decide +kernel
theorem dX3_won_51 : decode cX3_won 51 = .ok (.aload_n 0, 1) := by decide +kernel
theorem dX3_won_52 : decode cX3_won 52 = .ok (.getfield 19, 3) := by decide +kernel
theorem dX3_won_55 : decode cX3_won 55 = .ok (.iload_n 2, 1) := by decide +kernel
theorem dX3_won_56 : decode cX3_won 56 = .ok (.invokevirtual 78, 3) := by decide +kernel
theorem dX3_won_59 : decode cX3_won 59 = .ok (.invokevirtual 105, 3) := by decide +kernel
theorem dX3_won_62 : decode cX3_won 62 = .ok (.ifCond .ne 6, 3) := by decide +kernel
theorem dX3_won_65 : decode cX3_won 65 = .ok (.bipush (-3), 2) := by decide +kernel
theorem dX3_won_67 : decode cX3_won 67 = .ok (.ireturn, 1) := by decide +kernel
theorem dX3_won_68 : decode cX3_won 68 = .ok (.aload_n 0, 1) := by decide +kernel
theorem dX3_won_69 : decode cX3_won 69 = .ok (.getfield 19, 3) := by decide +kernel
theorem dX3_won_72 : decode cX3_won 72 = .ok (.iload_n 1, 1) := by decide +kernel
theorem dX3_won_73 : decode cX3_won 73 = .ok (.iload_n 2, 1) := by decide +kernel
theorem dX3_won_74 : decode cX3_won 74 = .ok (.invokevirtual 109, 3) := by decide +kernel
theorem dX3_won_77 : decode cX3_won 77 = .ok (.aload_n 0, 1) := by decide +kernel
theorem dX3_won_78 : decode cX3_won 78 = .ok (.getfield 19, 3) := by decide +kernel
theorem dX3_won_81 : decode cX3_won 81 = .ok (.invokevirtual 112, 3) := by decide +kernel
theorem dX3_won_84 : decode cX3_won 84 = .ok (.ireturn, 1) := by decide +kernel
theorem dX3_open_0 : decode cX3_open 0 = .ok (.aload_n 0, 1) := by decide +kernel
theorem dX3_open_1 : decode cX3_open 1 = .ok (.getfield 19, 3) := by decide +kernel
theorem dX3_open_4 : decode cX3_open 4 = .ok (.iload_n 1, 1) := by decide +kernel
theorem dX3_open_5 : decode cX3_open 5 = .ok (.invokevirtual 95, 3) := by decide +kernel
theorem dX3_open_8 : decode cX3_open 8 = .ok (.ifCond .ne 5, 3) := by decide +kernel
theorem dX3_open_11 : decode cX3_open 11 = .ok (.iconst (-1), 1) := by decide +kernel
theorem dX3_open_12 : decode cX3_open 12 = .ok (.ireturn, 1) := by decide +kernel
theorem dX3_open_13 : decode cX3_open 13 = .ok (.aload_n 0, 1) := by decide +kernel
theorem dX3_open_14 : decode cX3_open 14 = .ok (.getfield 19, 3) := by decide +kernel
theorem dX3_open_17 : decode cX3_open 17 = .ok (.iload_n 1, 1) := by decide +kernel
theorem dX3_open_18 : decode cX3_open 18 = .ok (.invokevirtual 116, 3) := by decide +kernel
theorem dX3_open_21 : decode cX3_open 21 = .ok (.bipush 8, 2) := by decide +kernel
theorem dX3_open_23 : decode cX3_open 23 = .ok (.if_icmp .ne 6, 3) := by decide +kernel
theorem dX3_open_26 : decode cX3_open 26 = .ok (.bipush (-3), 2) := by decide +kernel
theorem dX3_open_28 : decode cX3_open 28 = .ok (.ireturn, 1) := by decide +kernel
theorem dX3_open_29 : decode cX3_open 29 = .ok (.aload_n 0, 1) := by decide +kernel
theorem dX3_open_30 : decode cX3_open 30 = .ok (.getfield 19, 3) := by decide +kernel
theorem dX3_open_33 : decode cX3_open 33 = .ok (.iload_n 1, 1) := by decide +kernel
theorem dX3_open_34 : decode cX3_open 34 = .ok (.invokevirtual 119, 3) := by decide +kernel
theorem dX3_open_37 : decode cX3_open 37 = .ok (.aload_n 0, 1) := by decide +kernel
theorem dX3_open_38 : decode cX3_open 38 = .ok (.getfield 19, 3) := by decide +kernel
theorem dX3_open_41 : decode cX3_open 41 = .ok (.invokevirtual 112, 3) := by decide +kernel
theorem dX3_open_44 : decode cX3_open 44 = .ok (.ireturn, 1) := by decide +kernel
theorem dX3_match_0 : decode cX3_match 0 = .ok (.aload_n 0, 1) := by decide +kernel
theorem dX3_match_1 : decode cX3_match 1 = .ok (.getfield 19, 3) := by decide +kernel
theorem dX3_match_4 : decode cX3_match 4 = .ok (.iload_n 1, 1) := by decide +kernel
theorem dX3_match_5 : decode cX3_match 5 = .ok (.invokevirtual 95, 3) := by decide +kernel
theorem dX3_match_8 : decode cX3_match 8 = .ok (.ifCond .ne 5, 3) := by decide +kernel
theorem dX3_match_11 : decode cX3_match 11 = .ok (.iconst (-1), 1) := by decide +kernel
theorem dX3_match_12 : decode cX3_match 12 = .ok (.ireturn, 1) := by decide +kernel
theorem dX3_match_13 : decode cX3_match 13 = .ok (.iload_n 2, 1) := by decide +kernel
theorem dX3_match_14 : decode cX3_match 14 = .ok (.tableswitch 80 0 3 #[30, 39, 48, 60], 30) := by decide +kernel
theorem dX3_match_44 : decode cX3_match 44 = .ok (.aload_n 0, 1) := by decide +kernel
theorem dX3_match_45 : decode cX3_match 45 = .ok (.getfield 19, 3) := by decide +kernel
theorem dX3_match_48 : decode cX3_match 48 = .ok (.iload_n 1, 1) := by decide +kernel
theorem dX3_match_49 : decode cX3_match 49 = .ok (.invokevirtual 122, 3) := by decide +kernel
theorem dX3_match_52 : decode cX3_match 52 = .ok (.ireturn, 1) := by decide +kernel
theorem dX3_match_53 : decode cX3_match 53 = .ok (.aload_n 0, 1) := by decide +kernel
theorem dX3_match_54 : decode cX3_match 54 = .ok (.getfield 19, 3) := by decide +kernel
theorem dX3_match_57 : decode cX3_match 57 = .ok (.iload_n 1, 1) := by decide +kernel
theorem dX3_match_58 : decode cX3_match 58 = .ok (.invokevirtual 125, 3) := by decide +kernel
theorem dX3_match_61 : decode cX3_match 61 = .ok (.ireturn, 1) := by decide +kernel
theorem dX3_match_62 : decode cX3_match 62 = .ok (.aload_n 0, 1) := by decide +kernel
theorem dX3_match_63 : decode cX3_match 63 = .ok (.getfield 19, 3) := by decide +kernel
theorem dX3_match_66 : decode cX3_match 66 = .ok (.iload_n 1, 1) := by decide +kernel
theorem dX3_match_67 : decode cX3_match 67 = .ok (.invokevirtual 116, 3) := by decide +kernel
theorem dX3_match_70 : decode cX3_match 70 = .ok (.invokestatic 92, 3) := by decide +kernel
theorem dX3_match_73 : decode cX3_match 73 = .ok (.ireturn, 1) := by decide +kernel
theorem dX3_match_74 : decode cX3_match 74 = .ok (.aload_n 0, 1) := by decide +kernel
theorem dX3_match_75 : decode cX3_match 75 = .ok (.getfield 19, 3) := by decide +kernel
theorem dX3_match_78 : decode cX3_match 78 = .ok (.aload_n 0, 1) := by decide +kernel
theorem dX3_match_79 : decode cX3_match 79 = .ok (.getfield 10, 3) := by decide +kernel
theorem dX3_match_82 : decode cX3_match 82 = .ok (.invokevirtual 98, 3) := by decide +kernel
theorem dX3_match_85 : decode cX3_match 85 = .ok (.aload_n 0, 1) := by decide +kernel
theorem dX3_match_86 : decode cX3_match 86 = .ok (.getfield 19, 3) := by decide +kernel
theorem dX3_match_89 : decode cX3_match 89 = .ok (.iload_n 1, 1) := by decide +kernel
theorem dX3_match_90 : decode cX3_match 90 = .ok (.invokevirtual 128, 3) := by decide +kernel
theorem dX3_match_93 : decode cX3_match 93 = .ok (.ireturn, 1) := by decide +kernel
theorem dX3_match_94 : decode cX3_match 94 = .ok (.bipush (-2), 2) := by decide +kernel
theorem dX3_match_96 : decode cX3_match 96 = .ok (.ireturn, 1) := by decide +kernel
theorem dX3_reach_0 : decode cX3_reach 0 = .ok (.aload_n 0, 1) := by decide +kernel
theorem dX3_reach_1 : decode cX3_reach 1 = .ok (.getfield 10, 3) := by decide +kernel
theorem dX3_reach_4 : decode cX3_reach 4 = .ok (.iload_n 1, 1) := by decide +kernel
theorem dX3_reach_5 : decode cX3_reach 5 = .ok (.invokevirtual 51, 3) := by decide +kernel
theorem dX3_reach_8 : decode cX3_reach 8 = .ok (.ifCond .ne 7, 3) := by decide +kernel
theorem dX3_reach_11 : decode cX3_reach 11 = .ok (.ldc2_w 131, 3) := by decide +kernel
theorem dX3_reach_14 : decode cX3_reach 14 = .ok (.lreturn, 1) := by decide +kernel
theorem dX3_reach_15 : decode cX3_reach 15 = .ok (.iload_n 2, 1) := by decide +kernel
theorem dX3_reach_16 : decode cX3_reach 16 = .ok (.ifCond .lt 14, 3) := by decide +kernel
theorem dX3_reach_19 : decode cX3_reach 19 = .ok (.iload_n 2, 1) := by decide +kernel
theorem dX3_reach_20 : decode cX3_reach 20 = .ok (.aload_n 0, 1) := by decide +kernel
theorem dX3_reach_21 : decode cX3_reach 21 = .ok (.getfield 19, 3) := by decide +kernel
theorem dX3_reach_24 : decode cX3_reach 24 = .ok (.invokevirtual 133, 3) := by decide +kernel
theorem dX3_reach_27 : decode cX3_reach 27 = .ok (.if_icmp .le 7, 3) := by decide +kernel
theorem dX3_reach_30 : decode cX3_reach 30 = .ok (.ldc2_w 136, 3) := by decide +kernel
theorem dX3_reach_33 : decode cX3_reach 33 = .ok (.lreturn, 1) := by decide +kernel
theorem dX3_reach_34 : decode cX3_reach 34 = .ok (.aload_n 0, 1) := by decide +kernel
theorem dX3_reach_35 : decode cX3_reach 35 = .ok (.getfield 19, 3) := by decide +kernel
theorem dX3_reach_38 : decode cX3_reach 38 = .ok (.aload_n 0, 1) := by decide +kernel
theorem dX3_reach_39 : decode cX3_reach 39 = .ok (.getfield 10, 3) := by decide +kernel
theorem dX3_reach_42 : decode cX3_reach 42 = .ok (.invokevirtual 98, 3) := by decide +kernel
theorem dX3_reach_45 : decode cX3_reach 45 = .ok (.aload_n 0, 1) := by decide +kernel
theorem dX3_reach_46 : decode cX3_reach 46 = .ok (.getfield 19, 3) := by decide +kernel
theorem dX3_reach_49 : decode cX3_reach 49 = .ok (.iload_n 2, 1) := by decide +kernel
theorem dX3_reach_50 : decode cX3_reach 50 = .ok (.aload_n 0, 1) := by decide +kernel
theorem dX3_reach_51 : decode cX3_reach 51 = .ok (.getfield 19, 3) := by decide +kernel
theorem dX3_reach_54 : decode cX3_reach 54 = .ok (.iload_n 1, 1) := by decide +kernel
theorem dX3_reach_55 : decode cX3_reach 55 = .ok (.invokevirtual 78, 3) := by decide +kernel
theorem dX3_reach_58 : decode cX3_reach 58 = .ok (.invokevirtual 138, 3) := by decide +kernel
theorem dX3_reach_61 : decode cX3_reach 61 = .ok (.iload_n 2, 1) := by decide +kernel
theorem dX3_reach_62 : decode cX3_reach 62 = .ok (.invokestatic 142, 3) := by decide +kernel
theorem dX3_reach_65 : decode cX3_reach 65 = .ok (.iload_n 3, 1) := by decide +kernel
theorem dX3_reach_66 : decode cX3_reach 66 = .ok (.invokestatic 146, 3) := by decide +kernel
theorem dX3_reach_69 : decode cX3_reach 69 = .ok (.lreturn, 1) := by decide +kernel
theorem dX3_meet_0 : decode cX3_meet 0 = .ok (.aload_n 0, 1) := by decide +kernel
theorem dX3_meet_1 : decode cX3_meet 1 = .ok (.getfield 10, 3) := by decide +kernel
theorem dX3_meet_4 : decode cX3_meet 4 = .ok (.iload_n 1, 1) := by decide +kernel
theorem dX3_meet_5 : decode cX3_meet 5 = .ok (.invokevirtual 51, 3) := by decide +kernel
theorem dX3_meet_8 : decode cX3_meet 8 = .ok (.ifCond .eq 14, 3) := by decide +kernel
theorem dX3_meet_11 : decode cX3_meet 11 = .ok (.aload_n 0, 1) := by decide +kernel
theorem dX3_meet_12 : decode cX3_meet 12 = .ok (.getfield 10, 3) := by decide +kernel
theorem dX3_meet_15 : decode cX3_meet 15 = .ok (.iload_n 2, 1) := by decide +kernel
theorem dX3_meet_16 : decode cX3_meet 16 = .ok (.invokevirtual 51, 3) := by decide +kernel
theorem dX3_meet_19 : decode cX3_meet 19 = .ok (.ifCond .ne 7, 3) := by decide +kernel
theorem dX3_meet_22 : decode cX3_meet 22 = .ok (.ldc2_w 131, 3) := by decide +kernel
theorem dX3_meet_25 : decode cX3_meet 25 = .ok (.lreturn, 1) := by decide +kernel
theorem dX3_meet_26 : decode cX3_meet 26 = .ok (.iload_n 3, 1) := by decide +kernel
theorem dX3_meet_27 : decode cX3_meet 27 = .ok (.ifCond .lt 14, 3) := by decide +kernel
theorem dX3_meet_30 : decode cX3_meet 30 = .ok (.iload_n 3, 1) := by decide +kernel
theorem dX3_meet_31 : decode cX3_meet 31 = .ok (.aload_n 0, 1) := by decide +kernel
theorem dX3_meet_32 : decode cX3_meet 32 = .ok (.getfield 19, 3) := by decide +kernel
theorem dX3_meet_35 : decode cX3_meet 35 = .ok (.invokevirtual 133, 3) := by decide +kernel
theorem dX3_meet_38 : decode cX3_meet 38 = .ok (.if_icmp .le 7, 3) := by decide +kernel
theorem dX3_meet_41 : decode cX3_meet 41 = .ok (.ldc2_w 136, 3) := by decide +kernel
theorem dX3_meet_44 : decode cX3_meet 44 = .ok (.lreturn, 1) := by decide +kernel
theorem dX3_meet_45 : decode cX3_meet 45 = .ok (.iload_n 1, 1) := by decide +kernel
theorem dX3_meet_46 : decode cX3_meet 46 = .ok (.iload_n 2, 1) := by decide +kernel
theorem dX3_meet_47 : decode cX3_meet 47 = .ok (.if_icmp .ne 7, 3) := by decide +kernel
theorem dX3_meet_50 : decode cX3_meet 50 = .ok (.ldc2_w 150, 3) := by decide +kernel
theorem dX3_meet_53 : decode cX3_meet 53 = .ok (.lreturn, 1) := by decide +kernel
theorem dX3_meet_54 : decode cX3_meet 54 = .ok (.aload_n 0, 1) := by decide +kernel
theorem dX3_meet_55 : decode cX3_meet 55 = .ok (.getfield 19, 3) := by decide +kernel
theorem dX3_meet_58 : decode cX3_meet 58 = .ok (.iload_n 1, 1) := by decide +kernel
theorem dX3_meet_59 : decode cX3_meet 59 = .ok (.invokevirtual 78, 3) := by decide +kernel
theorem dX3_meet_62 : decode cX3_meet 62 = .ok (.istore 5, 2) := by decide +kernel
theorem dX3_meet_64 : decode cX3_meet 64 = .ok (.aload_n 0, 1) := by decide +kernel
theorem dX3_meet_65 : decode cX3_meet 65 = .ok (.getfield 19, 3) := by decide +kernel
theorem dX3_meet_68 : decode cX3_meet 68 = .ok (.iload_n 2, 1) := by decide +kernel
theorem dX3_meet_69 : decode cX3_meet 69 = .ok (.invokevirtual 78, 3) := by decide +kernel
theorem dX3_meet_72 : decode cX3_meet 72 = .ok (.istore 6, 2) := by decide +kernel
theorem dX3_meet_74 : decode cX3_meet 74 = .ok (.iload 5, 2) := by decide +kernel
theorem dX3_meet_76 : decode cX3_meet 76 = .ok (.iconst (-1), 1) := by decide +kernel
theorem dX3_meet_77 : decode cX3_meet 77 = .ok (.if_icmp .eq 9, 3) := by decide +kernel
theorem dX3_meet_80 : decode cX3_meet 80 = .ok (.iload 6, 2) := by decide +kernel
theorem dX3_meet_82 : decode cX3_meet 82 = .ok (.iconst (-1), 1) := by decide +kernel
theorem dX3_meet_83 : decode cX3_meet 83 = .ok (.if_icmp .ne 11, 3) := by decide +kernel
theorem dX3_meet_86 : decode cX3_meet 86 = .ok (.lconst 0, 1) := by decide +kernel
theorem dX3_meet_87 : decode cX3_meet 87 = .ok (.lconst 1, 1) := by decide +kernel
theorem dX3_meet_88 : decode cX3_meet 88 = .ok (.iload 4, 2) := by decide +kernel
theorem dX3_meet_90 : decode cX3_meet 90 = .ok (.invokestatic 146, 3) := by decide +kernel
theorem dX3_meet_93 : decode cX3_meet 93 = .ok (.lreturn, 1) := by decide +kernel
theorem dX3_meet_94 : decode cX3_meet 94 = .ok (.iload 5, 2) := by decide +kernel
theorem dX3_meet_96 : decode cX3_meet 96 = .ok (.iload 6, 2) := by decide +kernel
theorem dX3_meet_98 : decode cX3_meet 98 = .ok (.invokestatic 152, 3) := by decide +kernel
theorem dX3_meet_101 : decode cX3_meet 101 = .ok (.istore 7, 2) := by decide +kernel
theorem dX3_meet_103 : decode cX3_meet 103 = .ok (.iload_n 3, 1) := by decide +kernel
theorem dX3_meet_104 : decode cX3_meet 104 = .ok (.ifCond .eq 17, 3) := by decide +kernel
theorem dX3_meet_107 : decode cX3_meet 107 = .ok (.iload_n 3, 1) := by decide +kernel
theorem dX3_meet_108 : decode cX3_meet 108 = .ok (.iload 7, 2) := by decide +kernel
theorem dX3_meet_110 : decode cX3_meet 110 = .ok (.if_icmp .eq 11, 3) := by decide +kernel
theorem dX3_meet_113 : decode cX3_meet 113 = .ok (.lconst 0, 1) := by decide +kernel
theorem dX3_meet_114 : decode cX3_meet 114 = .ok (.lconst 1, 1) := by decide +kernel
theorem dX3_meet_115 : decode cX3_meet 115 = .ok (.iload 4, 2) := by decide +kernel
theorem dX3_meet_117 : decode cX3_meet 117 = .ok (.invokestatic 146, 3) := by decide +kernel
theorem dX3_meet_120 : decode cX3_meet 120 = .ok (.lreturn, 1) := by decide +kernel
theorem dX3_meet_121 : decode cX3_meet 121 = .ok (.aload_n 0, 1) := by decide +kernel
theorem dX3_meet_122 : decode cX3_meet 122 = .ok (.getfield 19, 3) := by decide +kernel
theorem dX3_meet_125 : decode cX3_meet 125 = .ok (.aload_n 0, 1) := by decide +kernel
theorem dX3_meet_126 : decode cX3_meet 126 = .ok (.getfield 10, 3) := by decide +kernel
theorem dX3_meet_129 : decode cX3_meet 129 = .ok (.invokevirtual 98, 3) := by decide +kernel
theorem dX3_meet_132 : decode cX3_meet 132 = .ok (.aload_n 0, 1) := by decide +kernel
theorem dX3_meet_133 : decode cX3_meet 133 = .ok (.getfield 19, 3) := by decide +kernel
theorem dX3_meet_136 : decode cX3_meet 136 = .ok (.iload 7, 2) := by decide +kernel
theorem dX3_meet_138 : decode cX3_meet 138 = .ok (.iconst 1, 1) := by decide +kernel
theorem dX3_meet_139 : decode cX3_meet 139 = .ok (.isub, 1) := by decide +kernel
theorem dX3_meet_140 : decode cX3_meet 140 = .ok (.iload 5, 2) := by decide +kernel
theorem dX3_meet_142 : decode cX3_meet 142 = .ok (.invokevirtual 138, 3) := by decide +kernel
theorem dX3_meet_145 : decode cX3_meet 145 = .ok (.aload_n 0, 1) := by decide +kernel
theorem dX3_meet_146 : decode cX3_meet 146 = .ok (.getfield 19, 3) := by decide +kernel
theorem dX3_meet_149 : decode cX3_meet 149 = .ok (.iload 7, 2) := by decide +kernel
theorem dX3_meet_151 : decode cX3_meet 151 = .ok (.iconst 1, 1) := by decide +kernel
theorem dX3_meet_152 : decode cX3_meet 152 = .ok (.isub, 1) := by decide +kernel
theorem dX3_meet_153 : decode cX3_meet 153 = .ok (.iload 6, 2) := by decide +kernel
theorem dX3_meet_155 : decode cX3_meet 155 = .ok (.invokevirtual 138, 3) := by decide +kernel
theorem dX3_meet_158 : decode cX3_meet 158 = .ok (.lmul, 1) := by decide +kernel
theorem dX3_meet_159 : decode cX3_meet 159 = .ok (.lstore 8, 2) := by decide +kernel
theorem dX3_meet_161 : decode cX3_meet 161 = .ok (.lload 8, 2) := by decide +kernel
theorem dX3_meet_163 : decode cX3_meet 163 = .ok (.iload 7, 2) := by decide +kernel
theorem dX3_meet_165 : decode cX3_meet 165 = .ok (.iconst 1, 1) := by decide +kernel
theorem dX3_meet_166 : decode cX3_meet 166 = .ok (.isub, 1) := by decide +kernel
theorem dX3_meet_167 : decode cX3_meet 167 = .ok (.invokestatic 142, 3) := by decide +kernel
theorem dX3_meet_170 : decode cX3_meet 170 = .ok (.iload 7, 2) := by decide +kernel
theorem dX3_meet_172 : decode cX3_meet 172 = .ok (.iconst 1, 1) := by decide +kernel
theorem dX3_meet_173 : decode cX3_meet 173 = .ok (.isub, 1) := by decide +kernel
theorem dX3_meet_174 : decode cX3_meet 174 = .ok (.invokestatic 142, 3) := by decide +kernel
theorem dX3_meet_177 : decode cX3_meet 177 = .ok (.lmul, 1) := by decide +kernel
theorem dX3_meet_178 : decode cX3_meet 178 = .ok (.iload 4, 2) := by decide +kernel
theorem dX3_meet_180 : decode cX3_meet 180 = .ok (.invokestatic 146, 3) := by decide +kernel
theorem dX3_meet_183 : decode cX3_meet 183 = .ok (.lreturn, 1) := by decide +kernel
theorem dX3_can_0 : decode cX3_can 0 = .ok (.aload_n 0, 1) := by decide +kernel
theorem dX3_can_1 : decode cX3_can 1 = .ok (.getfield 10, 3) := by decide +kernel
theorem dX3_can_4 : decode cX3_can 4 = .ok (.iload_n 1, 1) := by decide +kernel
theorem dX3_can_5 : decode cX3_can 5 = .ok (.invokevirtual 51, 3) := by decide +kernel
theorem dX3_can_8 : decode cX3_can 8 = .ok (.ifCond .ne 5, 3) := by decide +kernel
theorem dX3_can_11 : decode cX3_can 11 = .ok (.iconst (-1), 1) := by decide +kernel
theorem dX3_can_12 : decode cX3_can 12 = .ok (.ireturn, 1) := by decide +kernel
theorem dX3_can_13 : decode cX3_can 13 = .ok (.aload_n 0, 1) := by decide +kernel
theorem dX3_can_14 : decode cX3_can 14 = .ok (.getfield 19, 3) := by decide +kernel
theorem dX3_can_17 : decode cX3_can 17 = .ok (.aload_n 0, 1) := by decide +kernel
theorem dX3_can_18 : decode cX3_can 18 = .ok (.getfield 10, 3) := by decide +kernel
theorem dX3_can_21 : decode cX3_can 21 = .ok (.invokevirtual 98, 3) := by decide +kernel
theorem dX3_can_24 : decode cX3_can 24 = .ok (.aload_n 0, 1) := by decide +kernel
theorem dX3_can_25 : decode cX3_can 25 = .ok (.getfield 19, 3) := by decide +kernel
theorem dX3_can_28 : decode cX3_can 28 = .ok (.aload_n 0, 1) := by decide +kernel
theorem dX3_can_29 : decode cX3_can 29 = .ok (.getfield 19, 3) := by decide +kernel
theorem dX3_can_32 : decode cX3_can 32 = .ok (.invokevirtual 133, 3) := by decide +kernel
theorem dX3_can_35 : decode cX3_can 35 = .ok (.aload_n 0, 1) := by decide +kernel
theorem dX3_can_36 : decode cX3_can 36 = .ok (.getfield 19, 3) := by decide +kernel
theorem dX3_can_39 : decode cX3_can 39 = .ok (.iload_n 1, 1) := by decide +kernel
theorem dX3_can_40 : decode cX3_can 40 = .ok (.invokevirtual 78, 3) := by decide +kernel
theorem dX3_can_43 : decode cX3_can 43 = .ok (.invokevirtual 138, 3) := by decide +kernel
theorem dX3_can_46 : decode cX3_can 46 = .ok (.lconst 0, 1) := by decide +kernel
theorem dX3_can_47 : decode cX3_can 47 = .ok (.lcmp, 1) := by decide +kernel
theorem dX3_can_48 : decode cX3_can 48 = .ok (.ifCond .ne 5, 3) := by decide +kernel
theorem dX3_can_51 : decode cX3_can 51 = .ok (.iconst 0, 1) := by decide +kernel
theorem dX3_can_52 : decode cX3_can 52 = .ok (.ireturn, 1) := by decide +kernel
theorem dX3_can_53 : decode cX3_can 53 = .ok (.aload_n 0, 1) := by decide +kernel
theorem dX3_can_54 : decode cX3_can 54 = .ok (.getfield 19, 3) := by decide +kernel
theorem dX3_can_57 : decode cX3_can 57 = .ok (.invokevirtual 155, 3) := by decide +kernel
theorem dX3_can_60 : decode cX3_can 60 = .ok (.iconst 1, 1) := by decide +kernel
theorem dX3_can_61 : decode cX3_can 61 = .ok (.if_icmp .ne 7, 3) := by decide +kernel
theorem dX3_can_64 : decode cX3_can 64 = .ok (.iconst 2, 1) := by decide +kernel
theorem dX3_can_65 : decode cX3_can 65 = .ok (.goto 4, 3) := by decide +kernel
theorem dX3_can_68 : decode cX3_can 68 = .ok (.iconst 1, 1) := by decide +kernel
theorem dX3_can_69 : decode cX3_can 69 = .ok (.ireturn, 1) := by decide +kernel
theorem dX3_draws_0 : decode cX3_draws 0 = .ok (.aload_n 0, 1) := by decide +kernel
theorem dX3_draws_1 : decode cX3_draws 1 = .ok (.invokevirtual 158, 3) := by decide +kernel
theorem dX3_draws_4 : decode cX3_draws 4 = .ok (.aload_n 0, 1) := by decide +kernel
theorem dX3_draws_5 : decode cX3_draws 5 = .ok (.getfield 29, 3) := by decide +kernel
theorem dX3_draws_8 : decode cX3_draws 8 = .ok (.getfield 161, 3) := by decide +kernel
theorem dX3_draws_11 : decode cX3_draws 11 = .ok (.ireturn, 1) := by decide +kernel
theorem dX3_draw_0 : decode cX3_draw 0 = .ok (.aload_n 0, 1) := by decide +kernel
theorem dX3_draw_1 : decode cX3_draw 1 = .ok (.invokevirtual 158, 3) := by decide +kernel
theorem dX3_draw_4 : decode cX3_draw 4 = .ok (.aload_n 0, 1) := by decide +kernel
theorem dX3_draw_5 : decode cX3_draw 5 = .ok (.getfield 29, 3) := by decide +kernel
theorem dX3_draw_8 : decode cX3_draw 8 = .ok (.iload_n 1, 1) := by decide +kernel
theorem dX3_draw_9 : decode cX3_draw 9 = .ok (.invokevirtual 162, 3) := by decide +kernel
theorem dX3_draw_12 : decode cX3_draw 12 = .ok (.ifCond .eq 29, 3) := by decide +kernel
theorem dX3_draw_15 : decode cX3_draw 15 = .ok (.aload_n 0, 1) := by decide +kernel
theorem dX3_draw_16 : decode cX3_draw 16 = .ok (.getfield 19, 3) := by decide +kernel
theorem dX3_draw_19 : decode cX3_draw 19 = .ok (.iload_n 2, 1) := by decide +kernel
theorem dX3_draw_20 : decode cX3_draw 20 = .ok (.invokevirtual 75, 3) := by decide +kernel
theorem dX3_draw_23 : decode cX3_draw 23 = .ok (.ifCond .eq 18, 3) := by decide +kernel
theorem dX3_draw_26 : decode cX3_draw 26 = .ok (.aload_n 0, 1) := by decide +kernel
theorem dX3_draw_27 : decode cX3_draw 27 = .ok (.getfield 29, 3) := by decide +kernel
theorem dX3_draw_30 : decode cX3_draw 30 = .ok (.iload_n 1, 1) := by decide +kernel
theorem dX3_draw_31 : decode cX3_draw 31 = .ok (.iload_n 2, 1) := by decide +kernel
theorem dX3_draw_32 : decode cX3_draw 32 = .ok (.invokevirtual 163, 3) := by decide +kernel
theorem dX3_draw_35 : decode cX3_draw 35 = .ok (.invokestatic 92, 3) := by decide +kernel
theorem dX3_draw_38 : decode cX3_draw 38 = .ok (.goto 4, 3) := by decide +kernel
theorem dX3_draw_41 : decode cX3_draw 41 = .ok (.iconst (-1), 1) := by decide +kernel
theorem dX3_draw_42 : decode cX3_draw 42 = .ok (.ireturn, 1) := by decide +kernel
theorem dX3_lay_0 : decode cX3_lay 0 = .ok (.aload_n 0, 1) := by decide +kernel
theorem dX3_lay_1 : decode cX3_lay 1 = .ok (.invokevirtual 158, 3) := by decide +kernel
theorem dX3_lay_4 : decode cX3_lay 4 = .ok (.aload_n 0, 1) := by decide +kernel
theorem dX3_lay_5 : decode cX3_lay 5 = .ok (.getfield 29, 3) := by decide +kernel
theorem dX3_lay_8 : decode cX3_lay 8 = .ok (.iload_n 1, 1) := by decide +kernel
theorem dX3_lay_9 : decode cX3_lay 9 = .ok (.invokevirtual 162, 3) := by decide +kernel
theorem dX3_lay_12 : decode cX3_lay 12 = .ok (.ifCond .ne 5, 3) := by decide +kernel
theorem dX3_lay_15 : decode cX3_lay 15 = .ok (.iconst (-1), 1) := by decide +kernel
theorem dX3_lay_16 : decode cX3_lay 16 = .ok (.ireturn, 1) := by decide +kernel
theorem dX3_lay_17 : decode cX3_lay 17 = .ok (.aload_n 0, 1) := by decide +kernel
theorem dX3_lay_18 : decode cX3_lay 18 = .ok (.getfield 29, 3) := by decide +kernel
theorem dX3_lay_21 : decode cX3_lay 21 = .ok (.aload_n 0, 1) := by decide +kernel
theorem dX3_lay_22 : decode cX3_lay 22 = .ok (.getfield 19, 3) := by decide +kernel
theorem dX3_lay_25 : decode cX3_lay 25 = .ok (.iload_n 1, 1) := by decide +kernel
theorem dX3_lay_26 : decode cX3_lay 26 = .ok (.invokevirtual 165, 3) := by decide +kernel
theorem dX3_lay_29 : decode cX3_lay 29 = .ok (.iconst 1, 1) := by decide +kernel
theorem dX3_lay_30 : decode cX3_lay 30 = .ok (.ireturn, 1) := by decide +kernel
theorem dX3_like_0 : decode cX3_like 0 = .ok (.aload_n 0, 1) := by decide +kernel
theorem dX3_like_1 : decode cX3_like 1 = .ok (.invokevirtual 158, 3) := by decide +kernel
theorem dX3_like_4 : decode cX3_like 4 = .ok (.aload_n 0, 1) := by decide +kernel
theorem dX3_like_5 : decode cX3_like 5 = .ok (.getfield 29, 3) := by decide +kernel
theorem dX3_like_8 : decode cX3_like 8 = .ok (.aload_n 0, 1) := by decide +kernel
theorem dX3_like_9 : decode cX3_like 9 = .ok (.getfield 19, 3) := by decide +kernel
theorem dX3_like_12 : decode cX3_like 12 = .ok (.invokevirtual 169, 3) := by decide +kernel
theorem dX3_like_15 : decode cX3_like 15 = .ok (.istore_n 1, 1) := by decide +kernel
theorem dX3_like_16 : decode cX3_like 16 = .ok (.iload_n 1, 1) := by decide +kernel
theorem dX3_like_17 : decode cX3_like 17 = .ok (.iconst (-1), 1) := by decide +kernel
theorem dX3_like_18 : decode cX3_like 18 = .ok (.if_icmp .ne 8, 3) := by decide +kernel
theorem dX3_like_21 : decode cX3_like 21 = .ok (.bipush (-9), 2) := by decide +kernel
theorem dX3_like_23 : decode cX3_like 23 = .ok (.goto 4, 3) := by decide +kernel
theorem dX3_like_26 : decode cX3_like 26 = .ok (.iload_n 1, 1) := by decide +kernel
theorem dX3_like_27 : decode cX3_like 27 = .ok (.ireturn, 1) := by decide +kernel
theorem dX3_best_0 : decode cX3_best 0 = .ok (.aload_n 0, 1) := by decide +kernel
theorem dX3_best_1 : decode cX3_best 1 = .ok (.getfield 10, 3) := by decide +kernel
theorem dX3_best_4 : decode cX3_best 4 = .ok (.iload_n 1, 1) := by decide +kernel
theorem dX3_best_5 : decode cX3_best 5 = .ok (.invokevirtual 51, 3) := by decide +kernel
theorem dX3_best_8 : decode cX3_best 8 = .ok (.ifCond .ne 5, 3) := by decide +kernel
theorem dX3_best_11 : decode cX3_best 11 = .ok (.iconst (-1), 1) := by decide +kernel
theorem dX3_best_12 : decode cX3_best 12 = .ok (.ireturn, 1) := by decide +kernel
theorem dX3_best_13 : decode cX3_best 13 = .ok (.aload_n 0, 1) := by decide +kernel
theorem dX3_best_14 : decode cX3_best 14 = .ok (.invokevirtual 173, 3) := by decide +kernel
theorem dX3_best_17 : decode cX3_best 17 = .ok (.bipush (-9), 2) := by decide +kernel
theorem dX3_best_19 : decode cX3_best 19 = .ok (.istore_n 3, 1) := by decide +kernel
theorem dX3_best_20 : decode cX3_best 20 = .ok (.lconst 0, 1) := by decide +kernel
theorem dX3_best_21 : decode cX3_best 21 = .ok (.lstore 4, 2) := by decide +kernel
theorem dX3_best_23 : decode cX3_best 23 = .ok (.iconst 0, 1) := by decide +kernel
theorem dX3_best_24 : decode cX3_best 24 = .ok (.istore 6, 2) := by decide +kernel
theorem dX3_best_26 : decode cX3_best 26 = .ok (.iload 6, 2) := by decide +kernel
theorem dX3_best_28 : decode cX3_best 28 = .ok (.aload_n 0, 1) := by decide +kernel
theorem dX3_best_29 : decode cX3_best 29 = .ok (.getfield 29, 3) := by decide +kernel
theorem dX3_best_32 : decode cX3_best 32 = .ok (.getfield 161, 3) := by decide +kernel
theorem dX3_best_35 : decode cX3_best 35 = .ok (.if_icmp .ge 57, 3) := by decide +kernel
theorem dX3_best_38 : decode cX3_best 38 = .ok (.aload_n 0, 1) := by decide +kernel
theorem dX3_best_39 : decode cX3_best 39 = .ok (.getfield 29, 3) := by decide +kernel
theorem dX3_best_42 : decode cX3_best 42 = .ok (.iload 6, 2) := by decide +kernel
theorem dX3_best_44 : decode cX3_best 44 = .ok (.iload_n 1, 1) := by decide +kernel
theorem dX3_best_45 : decode cX3_best 45 = .ok (.invokevirtual 176, 3) := by decide +kernel
theorem dX3_best_48 : decode cX3_best 48 = .ok (.lstore 7, 2) := by decide +kernel
theorem dX3_best_50 : decode cX3_best 50 = .ok (.iload_n 3, 1) := by decide +kernel
theorem dX3_best_51 : decode cX3_best 51 = .ok (.bipush (-9), 2) := by decide +kernel
theorem dX3_best_53 : decode cX3_best 53 = .ok (.if_icmp .eq 26, 3) := by decide +kernel
theorem dX3_best_56 : decode cX3_best 56 = .ok (.iload_n 2, 1) := by decide +kernel
theorem dX3_best_57 : decode cX3_best 57 = .ok (.ifCond .eq 14, 3) := by decide +kernel
theorem dX3_best_60 : decode cX3_best 60 = .ok (.lload 7, 2) := by decide +kernel
theorem dX3_best_62 : decode cX3_best 62 = .ok (.lload 4, 2) := by decide +kernel
theorem dX3_best_64 : decode cX3_best 64 = .ok (.lcmp, 1) := by decide +kernel
theorem dX3_best_65 : decode cX3_best 65 = .ok (.ifCond .ge 21, 3) := by decide +kernel
theorem dX3_best_68 : decode cX3_best 68 = .ok (.goto 11, 3) := by decide +kernel
theorem dX3_best_71 : decode cX3_best 71 = .ok (.lload 7, 2) := by decide +kernel
theorem dX3_best_73 : decode cX3_best 73 = .ok (.lload 4, 2) := by decide +kernel
theorem dX3_best_75 : decode cX3_best 75 = .ok (.lcmp, 1) := by decide +kernel
theorem dX3_best_76 : decode cX3_best 76 = .ok (.ifCond .le 10, 3) := by decide +kernel
theorem dX3_best_79 : decode cX3_best 79 = .ok (.iload 6, 2) := by decide +kernel
theorem dX3_best_81 : decode cX3_best 81 = .ok (.istore_n 3, 1) := by decide +kernel
theorem dX3_best_82 : decode cX3_best 82 = .ok (.lload 7, 2) := by decide +kernel
theorem dX3_best_84 : decode cX3_best 84 = .ok (.lstore 4, 2) := by decide +kernel
theorem dX3_best_86 : decode cX3_best 86 = .ok (.iinc 6 1, 3) := by decide +kernel
theorem dX3_best_89 : decode cX3_best 89 = .ok (.goto (-63), 3) := by decide +kernel
theorem dX3_best_92 : decode cX3_best 92 = .ok (.iload_n 3, 1) := by decide +kernel
theorem dX3_best_93 : decode cX3_best 93 = .ok (.ireturn, 1) := by decide +kernel
theorem dX3_wins_0 : decode cX3_wins 0 = .ok (.aload_n 0, 1) := by decide +kernel
theorem dX3_wins_1 : decode cX3_wins 1 = .ok (.invokevirtual 158, 3) := by decide +kernel
theorem dX3_wins_4 : decode cX3_wins 4 = .ok (.aload_n 0, 1) := by decide +kernel
theorem dX3_wins_5 : decode cX3_wins 5 = .ok (.getfield 29, 3) := by decide +kernel
theorem dX3_wins_8 : decode cX3_wins 8 = .ok (.iload_n 1, 1) := by decide +kernel
theorem dX3_wins_9 : decode cX3_wins 9 = .ok (.invokevirtual 162, 3) := by decide +kernel
theorem dX3_wins_12 : decode cX3_wins 12 = .ok (.ifCond .eq 14, 3) := by decide +kernel
theorem dX3_wins_15 : decode cX3_wins 15 = .ok (.aload_n 0, 1) := by decide +kernel
theorem dX3_wins_16 : decode cX3_wins 16 = .ok (.getfield 10, 3) := by decide +kernel
theorem dX3_wins_19 : decode cX3_wins 19 = .ok (.iload_n 2, 1) := by decide +kernel
theorem dX3_wins_20 : decode cX3_wins 20 = .ok (.invokevirtual 51, 3) := by decide +kernel
theorem dX3_wins_23 : decode cX3_wins 23 = .ok (.ifCond .ne 7, 3) := by decide +kernel
theorem dX3_wins_26 : decode cX3_wins 26 = .ok (.ldc2_w 131, 3) := by decide +kernel
theorem dX3_wins_29 : decode cX3_wins 29 = .ok (.lreturn, 1) := by decide +kernel
theorem dX3_wins_30 : decode cX3_wins 30 = .ok (.aload_n 0, 1) := by decide +kernel
theorem dX3_wins_31 : decode cX3_wins 31 = .ok (.invokevirtual 173, 3) := by decide +kernel
theorem dX3_wins_34 : decode cX3_wins 34 = .ok (.aload_n 0, 1) := by decide +kernel
theorem dX3_wins_35 : decode cX3_wins 35 = .ok (.getfield 29, 3) := by decide +kernel
theorem dX3_wins_38 : decode cX3_wins 38 = .ok (.iload_n 1, 1) := by decide +kernel
theorem dX3_wins_39 : decode cX3_wins 39 = .ok (.iload_n 2, 1) := by decide +kernel
theorem dX3_wins_40 : decode cX3_wins 40 = .ok (.invokevirtual 176, 3) := by decide +kernel
theorem dX3_wins_43 : decode cX3_wins 43 = .ok (.aload_n 0, 1) := by decide +kernel
theorem dX3_wins_44 : decode cX3_wins 44 = .ok (.getfield 19, 3) := by decide +kernel
theorem dX3_wins_47 : decode cX3_wins 47 = .ok (.invokevirtual 133, 3) := by decide +kernel
theorem dX3_wins_50 : decode cX3_wins 50 = .ok (.invokestatic 142, 3) := by decide +kernel
theorem dX3_wins_53 : decode cX3_wins 53 = .ok (.iload_n 3, 1) := by decide +kernel
theorem dX3_wins_54 : decode cX3_wins 54 = .ok (.invokestatic 146, 3) := by decide +kernel
theorem dX3_wins_57 : decode cX3_wins 57 = .ok (.lreturn, 1) := by decide +kernel
theorem dX3_mean_0 : decode cX3_mean 0 = .ok (.aload_n 0, 1) := by decide +kernel
theorem dX3_mean_1 : decode cX3_mean 1 = .ok (.getfield 10, 3) := by decide +kernel
theorem dX3_mean_4 : decode cX3_mean 4 = .ok (.iload_n 1, 1) := by decide +kernel
theorem dX3_mean_5 : decode cX3_mean 5 = .ok (.invokevirtual 51, 3) := by decide +kernel
theorem dX3_mean_8 : decode cX3_mean 8 = .ok (.ifCond .ne 7, 3) := by decide +kernel
theorem dX3_mean_11 : decode cX3_mean 11 = .ok (.ldc2_w 131, 3) := by decide +kernel
theorem dX3_mean_14 : decode cX3_mean 14 = .ok (.lreturn, 1) := by decide +kernel
theorem dX3_mean_15 : decode cX3_mean 15 = .ok (.aload_n 0, 1) := by decide +kernel
theorem dX3_mean_16 : decode cX3_mean 16 = .ok (.invokevirtual 173, 3) := by decide +kernel
theorem dX3_mean_19 : decode cX3_mean 19 = .ok (.aload_n 0, 1) := by decide +kernel
theorem dX3_mean_20 : decode cX3_mean 20 = .ok (.getfield 29, 3) := by decide +kernel
theorem dX3_mean_23 : decode cX3_mean 23 = .ok (.getfield 161, 3) := by decide +kernel
theorem dX3_mean_26 : decode cX3_mean 26 = .ok (.ifCond .ne 7, 3) := by decide +kernel
theorem dX3_mean_29 : decode cX3_mean 29 = .ok (.ldc2_w 150, 3) := by decide +kernel
theorem dX3_mean_32 : decode cX3_mean 32 = .ok (.lreturn, 1) := by decide +kernel
theorem dX3_mean_33 : decode cX3_mean 33 = .ok (.lconst 0, 1) := by decide +kernel
theorem dX3_mean_34 : decode cX3_mean 34 = .ok (.lstore_n 3, 1) := by decide +kernel
theorem dX3_mean_35 : decode cX3_mean 35 = .ok (.iconst 0, 1) := by decide +kernel
theorem dX3_mean_36 : decode cX3_mean 36 = .ok (.istore 5, 2) := by decide +kernel
theorem dX3_mean_38 : decode cX3_mean 38 = .ok (.iload 5, 2) := by decide +kernel
theorem dX3_mean_40 : decode cX3_mean 40 = .ok (.aload_n 0, 1) := by decide +kernel
theorem dX3_mean_41 : decode cX3_mean 41 = .ok (.getfield 29, 3) := by decide +kernel
theorem dX3_mean_44 : decode cX3_mean 44 = .ok (.getfield 161, 3) := by decide +kernel
theorem dX3_mean_47 : decode cX3_mean 47 = .ok (.if_icmp .ge 22, 3) := by decide +kernel
theorem dX3_mean_50 : decode cX3_mean 50 = .ok (.lload_n 3, 1) := by decide +kernel
theorem dX3_mean_51 : decode cX3_mean 51 = .ok (.aload_n 0, 1) := by decide +kernel
theorem dX3_mean_52 : decode cX3_mean 52 = .ok (.getfield 29, 3) := by decide +kernel
theorem dX3_mean_55 : decode cX3_mean 55 = .ok (.iload 5, 2) := by decide +kernel
theorem dX3_mean_57 : decode cX3_mean 57 = .ok (.iload_n 1, 1) := by decide +kernel
theorem dX3_mean_58 : decode cX3_mean 58 = .ok (.invokevirtual 176, 3) := by decide +kernel
theorem dX3_mean_61 : decode cX3_mean 61 = .ok (.ladd, 1) := by decide +kernel
theorem dX3_mean_62 : decode cX3_mean 62 = .ok (.lstore_n 3, 1) := by decide +kernel
theorem dX3_mean_63 : decode cX3_mean 63 = .ok (.iinc 5 1, 3) := by decide +kernel
theorem dX3_mean_66 : decode cX3_mean 66 = .ok (.goto (-28), 3) := by decide +kernel
theorem dX3_mean_69 : decode cX3_mean 69 = .ok (.lload_n 3, 1) := by decide +kernel
theorem dX3_mean_70 : decode cX3_mean 70 = .ok (.aload_n 0, 1) := by decide +kernel
theorem dX3_mean_71 : decode cX3_mean 71 = .ok (.getfield 19, 3) := by decide +kernel
theorem dX3_mean_74 : decode cX3_mean 74 = .ok (.invokevirtual 133, 3) := by decide +kernel
theorem dX3_mean_77 : decode cX3_mean 77 = .ok (.invokestatic 142, 3) := by decide +kernel
theorem dX3_mean_80 : decode cX3_mean 80 = .ok (.aload_n 0, 1) := by decide +kernel
theorem dX3_mean_81 : decode cX3_mean 81 = .ok (.getfield 29, 3) := by decide +kernel
theorem dX3_mean_84 : decode cX3_mean 84 = .ok (.getfield 161, 3) := by decide +kernel
theorem dX3_mean_87 : decode cX3_mean 87 = .ok (.i2l, 1) := by decide +kernel
theorem dX3_mean_88 : decode cX3_mean 88 = .ok (.lmul, 1) := by decide +kernel
theorem dX3_mean_89 : decode cX3_mean 89 = .ok (.iload_n 2, 1) := by decide +kernel
theorem dX3_mean_90 : decode cX3_mean 90 = .ok (.invokestatic 146, 3) := by decide +kernel
theorem dX3_mean_93 : decode cX3_mean 93 = .ok (.lreturn, 1) := by decide +kernel
theorem dX3_first_0 : decode cX3_first 0 = .ok (.aload_n 0, 1) := by decide +kernel
theorem dX3_first_1 : decode cX3_first 1 = .ok (.getfield 10, 3) := by decide +kernel
theorem dX3_first_4 : decode cX3_first 4 = .ok (.iload_n 1, 1) := by decide +kernel
theorem dX3_first_5 : decode cX3_first 5 = .ok (.invokevirtual 51, 3) := by decide +kernel
theorem dX3_first_8 : decode cX3_first 8 = .ok (.ifCond .eq 14, 3) := by decide +kernel
theorem dX3_first_11 : decode cX3_first 11 = .ok (.aload_n 0, 1) := by decide +kernel
theorem dX3_first_12 : decode cX3_first 12 = .ok (.getfield 10, 3) := by decide +kernel
theorem dX3_first_15 : decode cX3_first 15 = .ok (.iload_n 2, 1) := by decide +kernel
theorem dX3_first_16 : decode cX3_first 16 = .ok (.invokevirtual 51, 3) := by decide +kernel
theorem dX3_first_19 : decode cX3_first 19 = .ok (.ifCond .ne 5, 3) := by decide +kernel
theorem dX3_first_22 : decode cX3_first 22 = .ok (.iconst (-1), 1) := by decide +kernel
theorem dX3_first_23 : decode cX3_first 23 = .ok (.ireturn, 1) := by decide +kernel
theorem dX3_first_24 : decode cX3_first 24 = .ok (.iload_n 3, 1) := by decide +kernel
theorem dX3_first_25 : decode cX3_first 25 = .ok (.iconst 1, 1) := by decide +kernel
theorem dX3_first_26 : decode cX3_first 26 = .ok (.if_icmp .lt 14, 3) := by decide +kernel
theorem dX3_first_29 : decode cX3_first 29 = .ok (.iload_n 3, 1) := by decide +kernel
theorem dX3_first_30 : decode cX3_first 30 = .ok (.aload_n 0, 1) := by decide +kernel
theorem dX3_first_31 : decode cX3_first 31 = .ok (.getfield 19, 3) := by decide +kernel
theorem dX3_first_34 : decode cX3_first 34 = .ok (.invokevirtual 133, 3) := by decide +kernel
theorem dX3_first_37 : decode cX3_first 37 = .ok (.if_icmp .le 6, 3) := by decide +kernel
theorem dX3_first_40 : decode cX3_first 40 = .ok (.bipush (-2), 2) := by decide +kernel
theorem dX3_first_42 : decode cX3_first 42 = .ok (.ireturn, 1) := by decide +kernel
theorem dX3_first_43 : decode cX3_first 43 = .ok (.iload_n 1, 1) := by decide +kernel
theorem dX3_first_44 : decode cX3_first 44 = .ok (.iload_n 2, 1) := by decide +kernel
theorem dX3_first_45 : decode cX3_first 45 = .ok (.if_icmp .ne 6, 3) := by decide +kernel
theorem dX3_first_48 : decode cX3_first 48 = .ok (.bipush (-3), 2) := by decide +kernel
theorem dX3_first_50 : decode cX3_first 50 = .ok (.ireturn, 1) := by decide +kernel
theorem dX3_first_51 : decode cX3_first 51 = .ok (.aload_n 0, 1) := by decide +kernel
theorem dX3_first_52 : decode cX3_first 52 = .ok (.invokevirtual 158, 3) := by decide +kernel
theorem dX3_first_55 : decode cX3_first 55 = .ok (.iconst 0, 1) := by decide +kernel
theorem dX3_first_56 : decode cX3_first 56 = .ok (.istore 4, 2) := by decide +kernel
theorem dX3_first_58 : decode cX3_first 58 = .ok (.iconst 0, 1) := by decide +kernel
theorem dX3_first_59 : decode cX3_first 59 = .ok (.istore 5, 2) := by decide +kernel
theorem dX3_first_61 : decode cX3_first 61 = .ok (.iload 5, 2) := by decide +kernel
theorem dX3_first_63 : decode cX3_first 63 = .ok (.aload_n 0, 1) := by decide +kernel
theorem dX3_first_64 : decode cX3_first 64 = .ok (.getfield 29, 3) := by decide +kernel
theorem dX3_first_67 : decode cX3_first 67 = .ok (.getfield 161, 3) := by decide +kernel
theorem dX3_first_70 : decode cX3_first 70 = .ok (.if_icmp .ge 39, 3) := by decide +kernel
theorem dX3_first_73 : decode cX3_first 73 = .ok (.aload_n 0, 1) := by decide +kernel
theorem dX3_first_74 : decode cX3_first 74 = .ok (.getfield 29, 3) := by decide +kernel
theorem dX3_first_77 : decode cX3_first 77 = .ok (.iload 5, 2) := by decide +kernel
theorem dX3_first_79 : decode cX3_first 79 = .ok (.iload_n 1, 1) := by decide +kernel
theorem dX3_first_80 : decode cX3_first 80 = .ok (.invokevirtual 177, 3) := by decide +kernel
theorem dX3_first_83 : decode cX3_first 83 = .ok (.aload_n 0, 1) := by decide +kernel
theorem dX3_first_84 : decode cX3_first 84 = .ok (.getfield 29, 3) := by decide +kernel
theorem dX3_first_87 : decode cX3_first 87 = .ok (.iload 5, 2) := by decide +kernel
theorem dX3_first_89 : decode cX3_first 89 = .ok (.iload_n 2, 1) := by decide +kernel
theorem dX3_first_90 : decode cX3_first 90 = .ok (.invokevirtual 177, 3) := by decide +kernel
theorem dX3_first_93 : decode cX3_first 93 = .ok (.invokestatic 152, 3) := by decide +kernel
theorem dX3_first_96 : decode cX3_first 96 = .ok (.iload_n 3, 1) := by decide +kernel
theorem dX3_first_97 : decode cX3_first 97 = .ok (.if_icmp .ne 6, 3) := by decide +kernel
theorem dX3_first_100 : decode cX3_first 100 = .ok (.iinc 4 1, 3) := by decide +kernel
theorem dX3_first_103 : decode cX3_first 103 = .ok (.iinc 5 1, 3) := by decide +kernel
theorem dX3_first_106 : decode cX3_first 106 = .ok (.goto (-45), 3) := by decide +kernel
theorem dX3_first_109 : decode cX3_first 109 = .ok (.iload 4, 2) := by decide +kernel
theorem dX3_first_111 : decode cX3_first 111 = .ok (.ireturn, 1) := by decide +kernel
theorem dX3_count_0 : decode cX3_count 0 = .ok (.iload_n 1, 1) := by decide +kernel
theorem dX3_count_1 : decode cX3_count 1 = .ok (.tableswitch 78 0 4 #[35, 43, 51, 62, 70], 35) := by decide +kernel
theorem dX3_count_36 : decode cX3_count 36 = .ok (.aload_n 0, 1) := by decide +kernel
theorem dX3_count_37 : decode cX3_count 37 = .ok (.getfield 10, 3) := by decide +kernel
theorem dX3_count_40 : decode cX3_count 40 = .ok (.getfield 40, 3) := by decide +kernel
theorem dX3_count_43 : decode cX3_count 43 = .ok (.ireturn, 1) := by decide +kernel
theorem dX3_count_44 : decode cX3_count 44 = .ok (.aload_n 0, 1) := by decide +kernel
theorem dX3_count_45 : decode cX3_count 45 = .ok (.getfield 19, 3) := by decide +kernel
theorem dX3_count_48 : decode cX3_count 48 = .ok (.getfield 69, 3) := by decide +kernel
theorem dX3_count_51 : decode cX3_count 51 = .ok (.ireturn, 1) := by decide +kernel
theorem dX3_count_52 : decode cX3_count 52 = .ok (.aload_n 0, 1) := by decide +kernel
theorem dX3_count_53 : decode cX3_count 53 = .ok (.getfield 19, 3) := by decide +kernel
theorem dX3_count_56 : decode cX3_count 56 = .ok (.iconst 0, 1) := by decide +kernel
theorem dX3_count_57 : decode cX3_count 57 = .ok (.bipush 8, 2) := by decide +kernel
theorem dX3_count_59 : decode cX3_count 59 = .ok (.invokevirtual 179, 3) := by decide +kernel
theorem dX3_count_62 : decode cX3_count 62 = .ok (.ireturn, 1) := by decide +kernel
theorem dX3_count_63 : decode cX3_count 63 = .ok (.aload_n 0, 1) := by decide +kernel
theorem dX3_count_64 : decode cX3_count 64 = .ok (.getfield 19, 3) := by decide +kernel
theorem dX3_count_67 : decode cX3_count 67 = .ok (.invokevirtual 112, 3) := by decide +kernel
theorem dX3_count_70 : decode cX3_count 70 = .ok (.ireturn, 1) := by decide +kernel
theorem dX3_count_71 : decode cX3_count 71 = .ok (.aload_n 0, 1) := by decide +kernel
theorem dX3_count_72 : decode cX3_count 72 = .ok (.getfield 10, 3) := by decide +kernel
theorem dX3_count_75 : decode cX3_count 75 = .ok (.invokevirtual 182, 3) := by decide +kernel
theorem dX3_count_78 : decode cX3_count 78 = .ok (.ireturn, 1) := by decide +kernel
theorem dX3_count_79 : decode cX3_count 79 = .ok (.bipush (-2), 2) := by decide +kernel
theorem dX3_count_81 : decode cX3_count 81 = .ok (.ireturn, 1) := by decide +kernel
theorem dX3_makeList_0 : decode cX3_makeList 0 = .ok (.aload_n 0, 1) := by decide +kernel
theorem dX3_makeList_1 : decode cX3_makeList 1 = .ok (.getfield 33, 3) := by decide +kernel
theorem dX3_makeList_4 : decode cX3_makeList 4 = .ok (.ifCond .ne 31, 3) := by decide +kernel
theorem dX3_makeList_7 : decode cX3_makeList 7 = .ok (.aload_n 0, 1) := by decide +kernel
theorem dX3_makeList_8 : decode cX3_makeList 8 = .ok (.getfield 29, 3) := by decide +kernel
theorem dX3_makeList_11 : decode cX3_makeList 11 = .ok (.aload_n 0, 1) := by decide +kernel
theorem dX3_makeList_12 : decode cX3_makeList 12 = .ok (.getfield 10, 3) := by decide +kernel
theorem dX3_makeList_15 : decode cX3_makeList 15 = .ok (.aload_n 0, 1) := by decide +kernel
theorem dX3_makeList_16 : decode cX3_makeList 16 = .ok (.getfield 19, 3) := by decide +kernel
theorem dX3_makeList_19 : decode cX3_makeList 19 = .ok (.getfield 69, 3) := by decide +kernel
theorem dX3_makeList_22 : decode cX3_makeList 22 = .ok (.invokevirtual 185, 3) := by decide +kernel
theorem dX3_makeList_25 : decode cX3_makeList 25 = .ok (.aload_n 0, 1) := by decide +kernel
theorem dX3_makeList_26 : decode cX3_makeList 26 = .ok (.iconst 1, 1) := by decide +kernel
theorem dX3_makeList_27 : decode cX3_makeList 27 = .ok (.putfield 33, 3) := by decide +kernel
theorem dX3_makeList_30 : decode cX3_makeList 30 = .ok (.aload_n 0, 1) := by decide +kernel
theorem dX3_makeList_31 : decode cX3_makeList 31 = .ok (.iconst 0, 1) := by decide +kernel
theorem dX3_makeList_32 : decode cX3_makeList 32 = .ok (.putfield 37, 3) := by decide +kernel
theorem dX3_makeList_35 : decode cX3_makeList 35 = .ok (.return_, 1) := by decide +kernel
theorem dX3_weighList_0 : decode cX3_weighList 0 = .ok (.aload_n 0, 1) := by decide +kernel
theorem dX3_weighList_1 : decode cX3_weighList 1 = .ok (.invokevirtual 158, 3) := by decide +kernel
theorem dX3_weighList_4 : decode cX3_weighList 4 = .ok (.aload_n 0, 1) := by decide +kernel
theorem dX3_weighList_5 : decode cX3_weighList 5 = .ok (.getfield 37, 3) := by decide +kernel
theorem dX3_weighList_8 : decode cX3_weighList 8 = .ok (.ifCond .ne 37, 3) := by decide +kernel
theorem dX3_weighList_11 : decode cX3_weighList 11 = .ok (.aload_n 0, 1) := by decide +kernel
theorem dX3_weighList_12 : decode cX3_weighList 12 = .ok (.getfield 23, 3) := by decide +kernel
theorem dX3_weighList_15 : decode cX3_weighList 15 = .ok (.aload_n 0, 1) := by decide +kernel
theorem dX3_weighList_16 : decode cX3_weighList 16 = .ok (.getfield 19, 3) := by decide +kernel
theorem dX3_weighList_19 : decode cX3_weighList 19 = .ok (.getfield 69, 3) := by decide +kernel
theorem dX3_weighList_22 : decode cX3_weighList 22 = .ok (.invokevirtual 72, 3) := by decide +kernel
theorem dX3_weighList_25 : decode cX3_weighList 25 = .ok (.aload_n 0, 1) := by decide +kernel
theorem dX3_weighList_26 : decode cX3_weighList 26 = .ok (.getfield 29, 3) := by decide +kernel
theorem dX3_weighList_29 : decode cX3_weighList 29 = .ok (.aload_n 0, 1) := by decide +kernel
theorem dX3_weighList_30 : decode cX3_weighList 30 = .ok (.getfield 23, 3) := by decide +kernel
theorem dX3_weighList_33 : decode cX3_weighList 33 = .ok (.aload_n 0, 1) := by decide +kernel
theorem dX3_weighList_34 : decode cX3_weighList 34 = .ok (.getfield 10, 3) := by decide +kernel
theorem dX3_weighList_37 : decode cX3_weighList 37 = .ok (.invokevirtual 189, 3) := by decide +kernel
theorem dX3_weighList_40 : decode cX3_weighList 40 = .ok (.aload_n 0, 1) := by decide +kernel
theorem dX3_weighList_41 : decode cX3_weighList 41 = .ok (.iconst 1, 1) := by decide +kernel
theorem dX3_weighList_42 : decode cX3_weighList 42 = .ok (.putfield 37, 3) := by decide +kernel
theorem dX3_weighList_45 : decode cX3_weighList 45 = .ok (.return_, 1) := by decide +kernel
theorem dX3_told_0 : decode cX3_told 0 = .ok (.iload_n 0, 1) := by decide +kernel
theorem dX3_told_1 : decode cX3_told 1 = .ok (.bipush 8, 2) := by decide +kernel
theorem dX3_told_3 : decode cX3_told 3 = .ok (.if_icmp .ne 8, 3) := by decide +kernel
theorem dX3_told_6 : decode cX3_told 6 = .ok (.bipush (-9), 2) := by decide +kernel
theorem dX3_told_8 : decode cX3_told 8 = .ok (.goto 4, 3) := by decide +kernel
theorem dX3_told_11 : decode cX3_told 11 = .ok (.iload_n 0, 1) := by decide +kernel
theorem dX3_told_12 : decode cX3_told 12 = .ok (.ireturn, 1) := by decide +kernel
theorem dX3_partsOf_0 : decode cX3_partsOf 0 = .ok (.iload_n 0, 1) := by decide +kernel
theorem dX3_partsOf_1 : decode cX3_partsOf 1 = .ok (.ifCond .lt 19, 3) := by decide +kernel
theorem dX3_partsOf_4 : decode cX3_partsOf 4 = .ok (.iload_n 0, 1) := by decide +kernel
theorem dX3_partsOf_5 : decode cX3_partsOf 5 = .ok (.getstatic 192, 3) := by decide +kernel
theorem dX3_partsOf_8 : decode cX3_partsOf 8 = .ok (.arraylength, 1) := by decide +kernel
theorem dX3_partsOf_9 : decode cX3_partsOf 9 = .ok (.if_icmp .ge 11, 3) := by decide +kernel
theorem dX3_partsOf_12 : decode cX3_partsOf 12 = .ok (.getstatic 192, 3) := by decide +kernel
theorem dX3_partsOf_15 : decode cX3_partsOf 15 = .ok (.iload_n 0, 1) := by decide +kernel
theorem dX3_partsOf_16 : decode cX3_partsOf 16 = .ok (.laload, 1) := by decide +kernel
theorem dX3_partsOf_17 : decode cX3_partsOf 17 = .ok (.goto 4, 3) := by decide +kernel
theorem dX3_partsOf_20 : decode cX3_partsOf 20 = .ok (.lconst 1, 1) := by decide +kernel
theorem dX3_partsOf_21 : decode cX3_partsOf 21 = .ok (.lreturn, 1) := by decide +kernel
theorem dX3_meetingRound_0 : decode cX3_meetingRound 0 = .ok (.iconst 1, 1) := by decide +kernel
theorem dX3_meetingRound_1 : decode cX3_meetingRound 1 = .ok (.istore_n 2, 1) := by decide +kernel
theorem dX3_meetingRound_2 : decode cX3_meetingRound 2 = .ok (.iload_n 2, 1) := by decide +kernel
theorem dX3_meetingRound_3 : decode cX3_meetingRound 3 = .ok (.iconst 3, 1) := by decide +kernel
theorem dX3_meetingRound_4 : decode cX3_meetingRound 4 = .ok (.if_icmp .ge 18, 3) := by decide +kernel
theorem dX3_meetingRound_7 : decode cX3_meetingRound 7 = .ok (.iload_n 0, 1) := by decide +kernel
theorem dX3_meetingRound_8 : decode cX3_meetingRound 8 = .ok (.iload_n 2, 1) := by decide +kernel
theorem dX3_meetingRound_9 : decode cX3_meetingRound 9 = .ok (.ishr, 1) := by decide +kernel
theorem dX3_meetingRound_10 : decode cX3_meetingRound 10 = .ok (.iload_n 1, 1) := by decide +kernel
theorem dX3_meetingRound_11 : decode cX3_meetingRound 11 = .ok (.iload_n 2, 1) := by decide +kernel
theorem dX3_meetingRound_12 : decode cX3_meetingRound 12 = .ok (.ishr, 1) := by decide +kernel
theorem dX3_meetingRound_13 : decode cX3_meetingRound 13 = .ok (.if_icmp .eq 9, 3) := by decide +kernel
theorem dX3_meetingRound_16 : decode cX3_meetingRound 16 = .ok (.iinc 2 1, 3) := by decide +kernel
theorem dX3_meetingRound_19 : decode cX3_meetingRound 19 = .ok (.goto (-17), 3) := by decide +kernel
theorem dX3_meetingRound_22 : decode cX3_meetingRound 22 = .ok (.iload_n 2, 1) := by decide +kernel
theorem dX3_meetingRound_23 : decode cX3_meetingRound 23 = .ok (.ireturn, 1) := by decide +kernel
theorem dX3_fraction_0 : decode cX3_fraction 0 = .ok (.lload_n 0, 1) := by decide +kernel
theorem dX3_fraction_1 : decode cX3_fraction 1 = .ok (.lload_n 2, 1) := by decide +kernel
theorem dX3_fraction_2 : decode cX3_fraction 2 = .ok (.invokestatic 196, 3) := by decide +kernel
theorem dX3_fraction_5 : decode cX3_fraction 5 = .ok (.lstore 5, 2) := by decide +kernel
theorem dX3_fraction_7 : decode cX3_fraction 7 = .ok (.lload 5, 2) := by decide +kernel
theorem dX3_fraction_9 : decode cX3_fraction 9 = .ok (.lconst 0, 1) := by decide +kernel
theorem dX3_fraction_10 : decode cX3_fraction 10 = .ok (.lcmp, 1) := by decide +kernel
theorem dX3_fraction_11 : decode cX3_fraction 11 = .ok (.ifCond .gt 14, 3) := by decide +kernel
theorem dX3_fraction_14 : decode cX3_fraction 14 = .ok (.iload 4, 2) := by decide +kernel
theorem dX3_fraction_16 : decode cX3_fraction 16 = .ok (.ifCond .eq 7, 3) := by decide +kernel
theorem dX3_fraction_19 : decode cX3_fraction 19 = .ok (.lconst 0, 1) := by decide +kernel
theorem dX3_fraction_20 : decode cX3_fraction 20 = .ok (.goto 4, 3) := by decide +kernel
theorem dX3_fraction_23 : decode cX3_fraction 23 = .ok (.lconst 1, 1) := by decide +kernel
theorem dX3_fraction_24 : decode cX3_fraction 24 = .ok (.lreturn, 1) := by decide +kernel
theorem dX3_fraction_25 : decode cX3_fraction 25 = .ok (.iload 4, 2) := by decide +kernel
theorem dX3_fraction_27 : decode cX3_fraction 27 = .ok (.ifCond .eq 10, 3) := by decide +kernel
theorem dX3_fraction_30 : decode cX3_fraction 30 = .ok (.lload_n 0, 1) := by decide +kernel
theorem dX3_fraction_31 : decode cX3_fraction 31 = .ok (.lload 5, 2) := by decide +kernel
theorem dX3_fraction_33 : decode cX3_fraction 33 = .ok (.ldiv, 1) := by decide +kernel
theorem dX3_fraction_34 : decode cX3_fraction 34 = .ok (.goto 7, 3) := by decide +kernel
theorem dX3_fraction_37 : decode cX3_fraction 37 = .ok (.lload_n 2, 1) := by decide +kernel
theorem dX3_fraction_38 : decode cX3_fraction 38 = .ok (.lload 5, 2) := by decide +kernel
theorem dX3_fraction_40 : decode cX3_fraction 40 = .ok (.ldiv, 1) := by decide +kernel
theorem dX3_fraction_41 : decode cX3_fraction 41 = .ok (.lreturn, 1) := by decide +kernel
theorem dX3_commonDivisor_0 : decode cX3_commonDivisor 0 = .ok (.iconst 0, 1) := by decide +kernel
theorem dX3_commonDivisor_1 : decode cX3_commonDivisor 1 = .ok (.istore 4, 2) := by decide +kernel
theorem dX3_commonDivisor_3 : decode cX3_commonDivisor 3 = .ok (.iload 4, 2) := by decide +kernel
theorem dX3_commonDivisor_5 : decode cX3_commonDivisor 5 = .ok (.bipush 100, 2) := by decide +kernel
theorem dX3_commonDivisor_7 : decode cX3_commonDivisor 7 = .ok (.if_icmp .ge 25, 3) := by decide +kernel
theorem dX3_commonDivisor_10 : decode cX3_commonDivisor 10 = .ok (.lload_n 2, 1) := by decide +kernel
theorem dX3_commonDivisor_11 : decode cX3_commonDivisor 11 = .ok (.lconst 0, 1) := by decide +kernel
theorem dX3_commonDivisor_12 : decode cX3_commonDivisor 12 = .ok (.lcmp, 1) := by decide +kernel
theorem dX3_commonDivisor_13 : decode cX3_commonDivisor 13 = .ok (.ifCond .le 19, 3) := by decide +kernel
theorem dX3_commonDivisor_16 : decode cX3_commonDivisor 16 = .ok (.lload_n 0, 1) := by decide +kernel
theorem dX3_commonDivisor_17 : decode cX3_commonDivisor 17 = .ok (.lload_n 2, 1) := by decide +kernel
theorem dX3_commonDivisor_18 : decode cX3_commonDivisor 18 = .ok (.lrem, 1) := by decide +kernel
theorem dX3_commonDivisor_19 : decode cX3_commonDivisor 19 = .ok (.lstore 5, 2) := by decide +kernel
theorem dX3_commonDivisor_21 : decode cX3_commonDivisor 21 = .ok (.lload_n 2, 1) := by decide +kernel
theorem dX3_commonDivisor_22 : decode cX3_commonDivisor 22 = .ok (.lstore_n 0, 1) := by decide +kernel
theorem dX3_commonDivisor_23 : decode cX3_commonDivisor 23 = .ok (.lload 5, 2) := by decide +kernel
theorem dX3_commonDivisor_25 : decode cX3_commonDivisor 25 = .ok (.lstore_n 2, 1) := by decide +kernel
theorem dX3_commonDivisor_26 : decode cX3_commonDivisor 26 = .ok (.iinc 4 1, 3) := by decide +kernel
theorem dX3_commonDivisor_29 : decode cX3_commonDivisor 29 = .ok (.goto (-26), 3) := by decide +kernel
theorem dX3_commonDivisor_32 : decode cX3_commonDivisor 32 = .ok (.lload_n 0, 1) := by decide +kernel
theorem dX3_commonDivisor_33 : decode cX3_commonDivisor 33 = .ok (.lreturn, 1) := by decide +kernel
theorem dX4_init_0 : decode cX4_init 0 = .ok (.aload_n 0, 1) := by decide +kernel
theorem dX4_init_1 : decode cX4_init 1 = .ok (.invokespecial 1, 3) := by decide +kernel
theorem dX4_init_4 : decode cX4_init 4 = .ok (.aload_n 0, 1) := by decide +kernel
theorem dX4_init_5 : decode cX4_init 5 = .ok (.iconst 2, 1) := by decide +kernel
theorem dX4_init_6 : decode cX4_init 6 = .ok (.putfield 7, 3) := by decide +kernel
theorem dX4_init_9 : decode cX4_init 9 = .ok (.aload_n 0, 1) := by decide +kernel
theorem dX4_init_10 : decode cX4_init 10 = .ok (.bipush 8, 2) := by decide +kernel
theorem dX4_init_12 : decode cX4_init 12 = .ok (.putfield 13, 3) := by decide +kernel
theorem dX4_init_15 : decode cX4_init 15 = .ok (.aload_n 0, 1) := by decide +kernel
theorem dX4_init_16 : decode cX4_init 16 = .ok (.bipush 64, 2) := by decide +kernel
theorem dX4_init_18 : decode cX4_init 18 = .ok (.newarray .int, 2) := by decide +kernel
theorem dX4_init_20 : decode cX4_init 20 = .ok (.putfield 16, 3) := by decide +kernel
theorem dX4_init_23 : decode cX4_init 23 = .ok (.aload_n 0, 1) := by decide +kernel
theorem dX4_init_24 : decode cX4_init 24 = .ok (.bipush 64, 2) := by decide +kernel
theorem dX4_init_26 : decode cX4_init 26 = .ok (.newarray .int, 2) := by decide +kernel
theorem dX4_init_28 : decode cX4_init 28 = .ok (.putfield 20, 3) := by decide +kernel
theorem dX4_init_31 : decode cX4_init 31 = .ok (.aload_n 0, 1) := by decide +kernel
theorem dX4_init_32 : decode cX4_init 32 = .ok (.bipush 8, 2) := by decide +kernel
theorem dX4_init_34 : decode cX4_init 34 = .ok (.newarray .int, 2) := by decide +kernel
theorem dX4_init_36 : decode cX4_init 36 = .ok (.putfield 23, 3) := by decide +kernel
theorem dX4_init_39 : decode cX4_init 39 = .ok (.aload_n 0, 1) := by decide +kernel
theorem dX4_init_40 : decode cX4_init 40 = .ok (.bipush 7, 2) := by decide +kernel
theorem dX4_init_42 : decode cX4_init 42 = .ok (.newarray .int, 2) := by decide +kernel
theorem dX4_init_44 : decode cX4_init 44 = .ok (.putfield 26, 3) := by decide +kernel
theorem dX4_init_47 : decode cX4_init 47 = .ok (.aload_n 0, 1) := by decide +kernel
theorem dX4_init_48 : decode cX4_init 48 = .ok (.bipush 7, 2) := by decide +kernel
theorem dX4_init_50 : decode cX4_init 50 = .ok (.newarray .int, 2) := by decide +kernel
theorem dX4_init_52 : decode cX4_init 52 = .ok (.putfield 29, 3) := by decide +kernel
theorem dX4_init_55 : decode cX4_init 55 = .ok (.aload_n 0, 1) := by decide +kernel
theorem dX4_init_56 : decode cX4_init 56 = .ok (.bipush 7, 2) := by decide +kernel
theorem dX4_init_58 : decode cX4_init 58 = .ok (.newarray .int, 2) := by decide +kernel
theorem dX4_init_60 : decode cX4_init 60 = .ok (.putfield 32, 3) := by decide +kernel
theorem dX4_init_63 : decode cX4_init 63 = .ok (.aload_n 0, 1) := by decide +kernel
theorem dX4_init_64 : decode cX4_init 64 = .ok (.bipush 7, 2) := by decide +kernel
theorem dX4_init_66 : decode cX4_init 66 = .ok (.newarray .int, 2) := by decide +kernel
theorem dX4_init_68 : decode cX4_init 68 = .ok (.putfield 35, 3) := by decide +kernel
theorem dX4_init_71 : decode cX4_init 71 = .ok (.aload_n 0, 1) := by decide +kernel
theorem dX4_init_72 : decode cX4_init 72 = .ok (.bipush 8, 2) := by decide +kernel
theorem dX4_init_74 : decode cX4_init 74 = .ok (.newarray .int, 2) := by decide +kernel
theorem dX4_init_76 : decode cX4_init 76 = .ok (.putfield 38, 3) := by decide +kernel
theorem dX4_init_79 : decode cX4_init 79 = .ok (.aload_n 0, 1) := by decide +kernel
theorem dX4_init_80 : decode cX4_init 80 = .ok (.bipush 56, 2) := by decide +kernel
theorem dX4_init_82 : decode cX4_init 82 = .ok (.newarray .long, 2) := by decide +kernel
theorem dX4_init_84 : decode cX4_init 84 = .ok (.putfield 41, 3) := by decide +kernel
theorem dX4_init_87 : decode cX4_init 87 = .ok (.aload_n 0, 1) := by decide +kernel
theorem dX4_init_88 : decode cX4_init 88 = .ok (.bipush 7, 2) := by decide +kernel
theorem dX4_init_90 : decode cX4_init 90 = .ok (.newarray .long, 2) := by decide +kernel
theorem dX4_init_92 : decode cX4_init 92 = .ok (.putfield 45, 3) := by decide +kernel
theorem dX4_init_95 : decode cX4_init 95 = .ok (.aload_n 0, 1) := by decide +kernel
theorem dX4_init_96 : decode cX4_init 96 = .ok (.bipush 8, 2) := by decide +kernel
theorem dX4_init_98 : decode cX4_init 98 = .ok (.newarray .long, 2) := by decide +kernel
theorem dX4_init_100 : decode cX4_init 100 = .ok (.putfield 48, 3) := by decide +kernel
theorem dX4_init_103 : decode cX4_init 103 = .ok (.aload_n 0, 1) := by decide +kernel
theorem dX4_init_104 : decode cX4_init 104 = .ok (.bipush 8, 2) := by decide +kernel
theorem dX4_init_106 : decode cX4_init 106 = .ok (.newarray .long, 2) := by decide +kernel
theorem dX4_init_108 : decode cX4_init 108 = .ok (.putfield 51, 3) := by decide +kernel
theorem dX4_init_111 : decode cX4_init 111 = .ok (.aload_n 0, 1) := by decide +kernel
theorem dX4_init_112 : decode cX4_init 112 = .ok (.sipush 3200, 3) := by decide +kernel
theorem dX4_init_115 : decode cX4_init 115 = .ok (.newarray .int, 2) := by decide +kernel
theorem dX4_init_117 : decode cX4_init 117 = .ok (.putfield 54, 3) := by decide +kernel
theorem dX4_init_120 : decode cX4_init 120 = .ok (.aload_n 0, 1) := by decide +kernel
theorem dX4_init_121 : decode cX4_init 121 = .ok (.invokevirtual 57, 3) := by decide +kernel
theorem dX4_init_124 : decode cX4_init 124 = .ok (.return_, 1) := by decide +kernel
theorem dX4_in_0 : decode cX4_in 0 = .ok (.lload_n 0, 1) := by decide +kernel
theorem dX4_in_1 : decode cX4_in 1 = .ok (.lload_n 2, 1) := by decide +kernel
theorem dX4_in_2 : decode cX4_in 2 = .ok (.lcmp, 1) := by decide +kernel
theorem dX4_in_3 : decode cX4_in 3 = .ok (.ifCond .lt 14, 3) := by decide +kernel
theorem dX4_in_6 : decode cX4_in 6 = .ok (.lload_n 0, 1) := by decide +kernel
theorem dX4_in_7 : decode cX4_in 7 = .ok (.lload 4, 2) := by decide +kernel
theorem dX4_in_9 : decode cX4_in 9 = .ok (.lcmp, 1) := by decide +kernel
theorem dX4_in_10 : decode cX4_in 10 = .ok (.ifCond .gt 7, 3) := by decide +kernel
theorem dX4_in_13 : decode cX4_in 13 = .ok (.iconst 1, 1) := by decide +kernel
theorem dX4_in_14 : decode cX4_in 14 = .ok (.goto 4, 3) := by decide +kernel
theorem dX4_in_17 : decode cX4_in 17 = .ok (.iconst 0, 1) := by decide +kernel
theorem dX4_in_18 : decode cX4_in 18 = .ok (.ireturn, 1) := by decide +kernel
theorem dX4_isPlayer_0 : decode cX4_isPlayer 0 = .ok (.iload_n 1, 1) := by decide +kernel
theorem dX4_isPlayer_1 : decode cX4_isPlayer 1 = .ok (.i2l, 1) := by decide +kernel
theorem dX4_isPlayer_2 : decode cX4_isPlayer 2 = .ok (.lconst 0, 1) := by decide +kernel
theorem dX4_isPlayer_3 : decode cX4_isPlayer 3 = .ok (.aload_n 0, 1) := by decide +kernel
theorem dX4_isPlayer_4 : decode cX4_isPlayer 4 = .ok (.getfield 7, 3) := by decide +kernel
theorem dX4_isPlayer_7 : decode cX4_isPlayer 7 = .ok (.iconst 1, 1) := by decide +kernel
theorem dX4_isPlayer_8 : decode cX4_isPlayer 8 = .ok (.isub, 1) := by decide +kernel
theorem dX4_isPlayer_9 : decode cX4_isPlayer 9 = .ok (.i2l, 1) := by decide +kernel
theorem dX4_isPlayer_10 : decode cX4_isPlayer 10 = .ok (.invokestatic 60, 3) := by decide +kernel
theorem dX4_isPlayer_13 : decode cX4_isPlayer 13 = .ok (.ireturn, 1) := by decide +kernel
theorem dX4_isPlace_0 : decode cX4_isPlace 0 = .ok (.iload_n 1, 1) := by decide +kernel
theorem dX4_isPlace_1 : decode cX4_isPlace 1 = .ok (.i2l, 1) := by decide +kernel
theorem dX4_isPlace_2 : decode cX4_isPlace 2 = .ok (.lconst 0, 1) := by decide +kernel
theorem dX4_isPlace_3 : decode cX4_isPlace 3 = .ok (.aload_n 0, 1) := by decide +kernel
theorem dX4_isPlace_4 : decode cX4_isPlace 4 = .ok (.getfield 13, 3) := by decide +kernel
theorem dX4_isPlace_7 : decode cX4_isPlace 7 = .ok (.iconst 1, 1) := by decide +kernel
theorem dX4_isPlace_8 : decode cX4_isPlace 8 = .ok (.isub, 1) := by decide +kernel
theorem dX4_isPlace_9 : decode cX4_isPlace 9 = .ok (.i2l, 1) := by decide +kernel
theorem dX4_isPlace_10 : decode cX4_isPlace 10 = .ok (.invokestatic 60, 3) := by decide +kernel
theorem dX4_isPlace_13 : decode cX4_isPlace 13 = .ok (.ireturn, 1) := by decide +kernel
theorem dX4_isMatch_0 : decode cX4_isMatch 0 = .ok (.iload_n 1, 1) := by decide +kernel
theorem dX4_isMatch_1 : decode cX4_isMatch 1 = .ok (.i2l, 1) := by decide +kernel
theorem dX4_isMatch_2 : decode cX4_isMatch 2 = .ok (.lconst 0, 1) := by decide +kernel
theorem dX4_isMatch_3 : decode cX4_isMatch 3 = .ok (.aload_n 0, 1) := by decide +kernel
theorem dX4_isMatch_4 : decode cX4_isMatch 4 = .ok (.getfield 13, 3) := by decide +kernel
theorem dX4_isMatch_7 : decode cX4_isMatch 7 = .ok (.iconst 2, 1) := by decide +kernel
theorem dX4_isMatch_8 : decode cX4_isMatch 8 = .ok (.isub, 1) := by decide +kernel
theorem dX4_isMatch_9 : decode cX4_isMatch 9 = .ok (.i2l, 1) := by decide +kernel
theorem dX4_isMatch_10 : decode cX4_isMatch 10 = .ok (.invokestatic 60, 3) := by decide +kernel
theorem dX4_isMatch_13 : decode cX4_isMatch 13 = .ok (.ireturn, 1) := by decide +kernel
theorem dX4_begin_0 : decode cX4_begin 0 = .ok (.iconst 0, 1) := by decide +kernel
theorem dX4_begin_1 : decode cX4_begin 1 = .ok (.istore_n 1, 1) := by decide +kernel
theorem dX4_begin_2 : decode cX4_begin 2 = .ok (.iload_n 1, 1) := by decide +kernel
theorem dX4_begin_3 : decode cX4_begin 3 = .ok (.bipush 64, 2) := by decide +kernel
theorem dX4_begin_5 : decode cX4_begin 5 = .ok (.if_icmp .ge 24, 3) := by decide +kernel
theorem dX4_begin_8 : decode cX4_begin 8 = .ok (.aload_n 0, 1) := by decide +kernel
theorem dX4_begin_9 : decode cX4_begin 9 = .ok (.getfield 16, 3) := by decide +kernel
theorem dX4_begin_12 : decode cX4_begin 12 = .ok (.iload_n 1, 1) := by decide +kernel
theorem dX4_begin_13 : decode cX4_begin 13 = .ok (.bipush 6, 2) := by decide +kernel
theorem dX4_begin_15 : decode cX4_begin 15 = .ok (.iastore, 1) := by decide +kernel
theorem dX4_begin_16 : decode cX4_begin 16 = .ok (.aload_n 0, 1) := by decide +kernel
theorem dX4_begin_17 : decode cX4_begin 17 = .ok (.getfield 20, 3) := by decide +kernel
theorem dX4_begin_20 : decode cX4_begin 20 = .ok (.iload_n 1, 1) := by decide +kernel
theorem dX4_begin_21 : decode cX4_begin 21 = .ok (.iconst 1, 1) := by decide +kernel
theorem dX4_begin_22 : decode cX4_begin 22 = .ok (.iastore, 1) := by decide +kernel
theorem dX4_begin_23 : decode cX4_begin 23 = .ok (.iinc 1 1, 3) := by decide +kernel
theorem dX4_begin_26 : decode cX4_begin 26 = .ok (.goto (-24), 3) := by decide +kernel
theorem dX4_begin_29 : decode cX4_begin 29 = .ok (.aload_n 0, 1) := by decide +kernel
theorem dX4_begin_30 : decode cX4_begin 30 = .ok (.invokevirtual 64, 3) := by decide +kernel
theorem dX4_begin_33 : decode cX4_begin 33 = .ok (.aload_n 0, 1) := by decide +kernel
theorem dX4_begin_34 : decode cX4_begin 34 = .ok (.iconst 0, 1) := by decide +kernel
theorem dX4_begin_35 : decode cX4_begin 35 = .ok (.putfield 67, 3) := by decide +kernel
theorem dX4_begin_38 : decode cX4_begin 38 = .ok (.return_, 1) := by decide +kernel
theorem dX4_sweep_0 : decode cX4_sweep 0 = .ok (.iconst 0, 1) := by decide +kernel
theorem dX4_sweep_1 : decode cX4_sweep 1 = .ok (.istore_n 1, 1) := by decide +kernel
theorem dX4_sweep_2 : decode cX4_sweep 2 = .ok (.iload_n 1, 1) := by decide +kernel
theorem dX4_sweep_3 : decode cX4_sweep 3 = .ok (.bipush 8, 2) := by decide +kernel
theorem dX4_sweep_5 : decode cX4_sweep 5 = .ok (.if_icmp .ge 17, 3) := by decide +kernel
theorem dX4_sweep_8 : decode cX4_sweep 8 = .ok (.aload_n 0, 1) := by decide +kernel
theorem dX4_sweep_9 : decode cX4_sweep 9 = .ok (.getfield 23, 3) := by decide +kernel
theorem dX4_sweep_12 : decode cX4_sweep 12 = .ok (.iload_n 1, 1) := by decide +kernel
theorem dX4_sweep_13 : decode cX4_sweep 13 = .ok (.bipush 8, 2) := by decide +kernel
theorem dX4_sweep_15 : decode cX4_sweep 15 = .ok (.iastore, 1) := by decide +kernel
theorem dX4_sweep_16 : decode cX4_sweep 16 = .ok (.iinc 1 1, 3) := by decide +kernel
theorem dX4_sweep_19 : decode cX4_sweep 19 = .ok (.goto (-17), 3) := by decide +kernel
theorem dX4_sweep_22 : decode cX4_sweep 22 = .ok (.aload_n 0, 1) := by decide +kernel
theorem dX4_sweep_23 : decode cX4_sweep 23 = .ok (.invokevirtual 71, 3) := by decide +kernel
theorem dX4_sweep_26 : decode cX4_sweep 26 = .ok (.return_, 1) := by decide +kernel
theorem dX4_undecide_0 : decode cX4_undecide 0 = .ok (.iconst 0, 1) := by decide +kernel
theorem dX4_undecide_1 : decode cX4_undecide 1 = .ok (.istore_n 1, 1) := by decide +kernel
theorem dX4_undecide_2 : decode cX4_undecide 2 = .ok (.iload_n 1, 1) := by decide +kernel
theorem dX4_undecide_3 : decode cX4_undecide 3 = .ok (.bipush 7, 2) := by decide +kernel
theorem dX4_undecide_5 : decode cX4_undecide 5 = .ok (.if_icmp .ge 17, 3) := by decide +kernel
theorem dX4_undecide_8 : decode cX4_undecide 8 = .ok (.aload_n 0, 1) := by decide +kernel
theorem dX4_undecide_9 : decode cX4_undecide 9 = .ok (.getfield 26, 3) := by decide +kernel
theorem dX4_undecide_12 : decode cX4_undecide 12 = .ok (.iload_n 1, 1) := by decide +kernel
theorem dX4_undecide_13 : decode cX4_undecide 13 = .ok (.bipush (-9), 2) := by decide +kernel
theorem dX4_undecide_15 : decode cX4_undecide 15 = .ok (.iastore, 1) := by decide +kernel
theorem dX4_undecide_16 : decode cX4_undecide 16 = .ok (.iinc 1 1, 3) := by decide +kernel
theorem dX4_undecide_19 : decode cX4_undecide 19 = .ok (.goto (-17), 3) := by decide +kernel
theorem dX4_undecide_22 : decode cX4_undecide 22 = .ok (.return_, 1) := by decide +kernel
theorem dX4_players_0 : decode cX4_players 0 = .ok (.iload_n 1, 1) := by decide +kernel
theorem dX4_players_1 : decode cX4_players 1 = .ok (.i2l, 1) := by decide +kernel
theorem dX4_players_2 : decode cX4_players 2 = .ok (.ldc2_w 74, 3) := by decide +kernel
theorem dX4_players_5 : decode cX4_players 5 = .ok (.ldc2_w 76, 3) := by decide +kernel
theorem dX4_players_8 : decode cX4_players 8 = .ok (.invokestatic 60, 3) := by decide +kernel
theorem dX4_players_11 : decode cX4_players 11 = .ok (.ifCond .ne 6, 3) := by decide +kernel
theorem dX4_players_14 : decode cX4_players 14 = .ok (.bipush (-2), 2) := by decide +kernel
theorem dX4_players_16 : decode cX4_players 16 = .ok (.ireturn, 1) := by decide +kernel
theorem dX4_players_17 : decode cX4_players 17 = .ok (.aload_n 0, 1) := by decide +kernel
theorem dX4_players_18 : decode cX4_players 18 = .ok (.getfield 7, 3) := by decide +kernel
theorem dX4_players_21 : decode cX4_players 21 = .ok (.istore_n 2, 1) := by decide +kernel
theorem dX4_players_22 : decode cX4_players 22 = .ok (.aload_n 0, 1) := by decide +kernel
theorem dX4_players_23 : decode cX4_players 23 = .ok (.iload_n 1, 1) := by decide +kernel
theorem dX4_players_24 : decode cX4_players 24 = .ok (.putfield 7, 3) := by decide +kernel
theorem dX4_players_27 : decode cX4_players 27 = .ok (.aload_n 0, 1) := by decide +kernel
theorem dX4_players_28 : decode cX4_players 28 = .ok (.invokevirtual 57, 3) := by decide +kernel
theorem dX4_players_31 : decode cX4_players 31 = .ok (.iload_n 2, 1) := by decide +kernel
theorem dX4_players_32 : decode cX4_players 32 = .ok (.ireturn, 1) := by decide +kernel
theorem dX4_chance_0 : decode cX4_chance 0 = .ok (.aload_n 0, 1) := by decide +kernel
theorem dX4_chance_1 : decode cX4_chance 1 = .ok (.iload_n 1, 1) := by decide +kernel
theorem dX4_chance_2 : decode cX4_chance 2 = .ok (.invokevirtual 78, 3) := by decide +kernel
theorem dX4_chance_5 : decode cX4_chance 5 = .ok (.ifCond .eq 11, 3) := by decide +kernel
theorem dX4_chance_8 : decode cX4_chance 8 = .ok (.aload_n 0, 1) := by decide +kernel
theorem dX4_chance_9 : decode cX4_chance 9 = .ok (.iload_n 2, 1) := by decide +kernel
theorem dX4_chance_10 : decode cX4_chance 10 = .ok (.invokevirtual 78, 3) := by decide +kernel
theorem dX4_chance_13 : decode cX4_chance 13 = .ok (.ifCond .ne 5, 3) := by decide +kernel
theorem dX4_chance_16 : decode cX4_chance 16 = .ok (.iconst (-1), 1) := by decide +kernel
theorem dX4_chance_17 : decode cX4_chance 17 = .ok (.ireturn, 1) := by decide +kernel
theorem dX4_chance_18 : decode cX4_chance 18 = .ok (.iload_n 3, 1) := by decide +kernel
theorem dX4_chance_19 : decode cX4_chance 19 = .ok (.i2l, 1) := by decide +kernel
theorem dX4_chance_20 : decode cX4_chance 20 = .ok (.lconst 0, 1) := by decide +kernel
theorem dX4_chance_21 : decode cX4_chance 21 = .ok (.ldc2_w 82, 3) := by decide +kernel
theorem dX4_chance_24 : decode cX4_chance 24 = .ok (.invokestatic 60, 3) := by decide +kernel
theorem dX4_chance_27 : decode cX4_chance 27 = .ok (.ifCond .ne 6, 3) := by decide +kernel
theorem dX4_chance_30 : decode cX4_chance 30 = .ok (.bipush (-2), 2) := by decide +kernel
theorem dX4_chance_32 : decode cX4_chance 32 = .ok (.ireturn, 1) := by decide +kernel
theorem dX4_chance_33 : decode cX4_chance 33 = .ok (.iload_n 1, 1) := by decide +kernel
theorem dX4_chance_34 : decode cX4_chance 34 = .ok (.iload_n 2, 1) := by decide +kernel
theorem dX4_chance_35 : decode cX4_chance 35 = .ok (.if_icmp .ne 6, 3) := by decide +kernel
theorem dX4_chance_38 : decode cX4_chance 38 = .ok (.bipush (-3), 2) := by decide +kernel
theorem dX4_chance_40 : decode cX4_chance 40 = .ok (.ireturn, 1) := by decide +kernel
theorem dX4_chance_41 : decode cX4_chance 41 = .ok (.aload_n 0, 1) := by decide +kernel
theorem dX4_chance_42 : decode cX4_chance 42 = .ok (.getfield 16, 3) := by decide +kernel
theorem dX4_chance_45 : decode cX4_chance 45 = .ok (.bipush 8, 2) := by decide +kernel
theorem dX4_chance_47 : decode cX4_chance 47 = .ok (.iload_n 1, 1) := by decide +kernel
theorem dX4_chance_48 : decode cX4_chance 48 = .ok (.imul, 1) := by decide +kernel
theorem dX4_chance_49 : decode cX4_chance 49 = .ok (.iload_n 2, 1) := by decide +kernel
theorem dX4_chance_50 : decode cX4_chance 50 = .ok (.iadd, 1) := by decide +kernel
theorem dX4_chance_51 : decode cX4_chance 51 = .ok (.iaload, 1) := by decide +kernel
theorem dX4_chance_52 : decode cX4_chance 52 = .ok (.istore 4, 2) := by decide +kernel
theorem dX4_chance_54 : decode cX4_chance 54 = .ok (.aload_n 0, 1) := by decide +kernel
theorem dX4_chance_55 : decode cX4_chance 55 = .ok (.getfield 16, 3) := by decide +kernel
theorem dX4_chance_58 : decode cX4_chance 58 = .ok (.bipush 8, 2) := by decide +kernel
theorem dX4_chance_60 : decode cX4_chance 60 = .ok (.iload_n 1, 1) := by decide +kernel
theorem dX4_chance_61 : decode cX4_chance 61 = .ok (.imul, 1) := by decide +kernel
theorem dX4_chance_62 : decode cX4_chance 62 = .ok (.iload_n 2, 1) := by decide +kernel
theorem dX4_chance_63 : decode cX4_chance 63 = .ok (.iadd, 1) := by decide +kernel
theorem dX4_chance_64 : decode cX4_chance 64 = .ok (.iload_n 3, 1) := by decide +kernel
theorem dX4_chance_65 : decode cX4_chance 65 = .ok (.iastore, 1) := by decide +kernel
theorem dX4_chance_66 : decode cX4_chance 66 = .ok (.aload_n 0, 1) := by decide +kernel
theorem dX4_chance_67 : decode cX4_chance 67 = .ok (.getfield 16, 3) := by decide +kernel
theorem dX4_chance_70 : decode cX4_chance 70 = .ok (.bipush 8, 2) := by decide +kernel
theorem dX4_chance_72 : decode cX4_chance 72 = .ok (.iload_n 2, 1) := by decide +kernel
theorem dX4_chance_73 : decode cX4_chance 73 = .ok (.imul, 1) := by decide +kernel
theorem dX4_chance_74 : decode cX4_chance 74 = .ok (.iload_n 1, 1) := by decide +kernel
theorem dX4_chance_75 : decode cX4_chance 75 = .ok (.iadd, 1) := by decide +kernel
theorem dX4_chance_76 : decode cX4_chance 76 = .ok (.bipush 12, 2) := by decide +kernel
theorem dX4_chance_78 : decode cX4_chance 78 = .ok (.iload_n 3, 1) := by decide +kernel
theorem dX4_chance_79 : decode cX4_chance 79 = .ok (.isub, 1) := by decide +kernel
theorem dX4_chance_80 : decode cX4_chance 80 = .ok (.iastore, 1) := by decide +kernel
theorem dX4_chance_81 : decode cX4_chance 81 = .ok (.iload 4, 2) := by decide +kernel
theorem dX4_chance_83 : decode cX4_chance 83 = .ok (.ireturn, 1) := by decide +kernel
theorem dX4_apart_0 : decode cX4_apart 0 = .ok (.aload_n 0, 1) := by decide +kernel
theorem dX4_apart_1 : decode cX4_apart 1 = .ok (.iload_n 1, 1) := by decide +kernel
theorem dX4_apart_2 : decode cX4_apart 2 = .ok (.invokevirtual 78, 3) := by decide +kernel
theorem dX4_apart_5 : decode cX4_apart 5 = .ok (.ifCond .eq 11, 3) := by decide +kernel
theorem dX4_apart_8 : decode cX4_apart 8 = .ok (.aload_n 0, 1) := by decide +kernel
theorem dX4_apart_9 : decode cX4_apart 9 = .ok (.iload_n 2, 1) := by decide +kernel
theorem dX4_apart_10 : decode cX4_apart 10 = .ok (.invokevirtual 78, 3) := by decide +kernel
theorem dX4_apart_13 : decode cX4_apart 13 = .ok (.ifCond .ne 5, 3) := by decide +kernel
theorem dX4_apart_16 : decode cX4_apart 16 = .ok (.iconst (-1), 1) := by decide +kernel
theorem dX4_apart_17 : decode cX4_apart 17 = .ok (.ireturn, 1) := by decide +kernel
theorem dX4_apart_18 : decode cX4_apart 18 = .ok (.iload_n 3, 1) := by decide +kernel
theorem dX4_apart_19 : decode cX4_apart 19 = .ok (.i2l, 1) := by decide +kernel
theorem dX4_apart_20 : decode cX4_apart 20 = .ok (.lconst 1, 1) := by decide +kernel
theorem dX4_apart_21 : decode cX4_apart 21 = .ok (.ldc2_w 84, 3) := by decide +kernel
theorem dX4_apart_24 : decode cX4_apart 24 = .ok (.invokestatic 60, 3) := by decide +kernel
theorem dX4_apart_27 : decode cX4_apart 27 = .ok (.ifCond .ne 6, 3) := by decide +kernel
theorem dX4_apart_30 : decode cX4_apart 30 = .ok (.bipush (-2), 2) := by decide +kernel
theorem dX4_apart_32 : decode cX4_apart 32 = .ok (.ireturn, 1) := by decide +kernel
theorem dX4_apart_33 : decode cX4_apart 33 = .ok (.iload_n 1, 1) := by decide +kernel
theorem dX4_apart_34 : decode cX4_apart 34 = .ok (.iload_n 2, 1) := by decide +kernel
theorem dX4_apart_35 : decode cX4_apart 35 = .ok (.if_icmp .ne 6, 3) := by decide +kernel
theorem dX4_apart_38 : decode cX4_apart 38 = .ok (.bipush (-3), 2) := by decide +kernel
theorem dX4_apart_40 : decode cX4_apart 40 = .ok (.ireturn, 1) := by decide +kernel
theorem dX4_apart_41 : decode cX4_apart 41 = .ok (.aload_n 0, 1) := by decide +kernel
theorem dX4_apart_42 : decode cX4_apart 42 = .ok (.getfield 20, 3) := by decide +kernel
theorem dX4_apart_45 : decode cX4_apart 45 = .ok (.bipush 8, 2) := by decide +kernel
theorem dX4_apart_47 : decode cX4_apart 47 = .ok (.iload_n 1, 1) := by decide +kernel
theorem dX4_apart_48 : decode cX4_apart 48 = .ok (.imul, 1) := by decide +kernel
theorem dX4_apart_49 : decode cX4_apart 49 = .ok (.iload_n 2, 1) := by decide +kernel
theorem dX4_apart_50 : decode cX4_apart 50 = .ok (.iadd, 1) := by decide +kernel
theorem dX4_apart_51 : decode cX4_apart 51 = .ok (.iaload, 1) := by decide +kernel
theorem dX4_apart_52 : decode cX4_apart 52 = .ok (.istore 4, 2) := by decide +kernel
theorem dX4_apart_54 : decode cX4_apart 54 = .ok (.aload_n 0, 1) := by decide +kernel
theorem dX4_apart_55 : decode cX4_apart 55 = .ok (.getfield 20, 3) := by decide +kernel
theorem dX4_apart_58 : decode cX4_apart 58 = .ok (.bipush 8, 2) := by decide +kernel
theorem dX4_apart_60 : decode cX4_apart 60 = .ok (.iload_n 1, 1) := by decide +kernel
theorem dX4_apart_61 : decode cX4_apart 61 = .ok (.imul, 1) := by decide +kernel
theorem dX4_apart_62 : decode cX4_apart 62 = .ok (.iload_n 2, 1) := by decide +kernel
theorem dX4_apart_63 : decode cX4_apart 63 = .ok (.iadd, 1) := by decide +kernel
theorem dX4_apart_64 : decode cX4_apart 64 = .ok (.iload_n 3, 1) := by decide +kernel
theorem dX4_apart_65 : decode cX4_apart 65 = .ok (.iastore, 1) := by decide +kernel
theorem dX4_apart_66 : decode cX4_apart 66 = .ok (.aload_n 0, 1) := by decide +kernel
theorem dX4_apart_67 : decode cX4_apart 67 = .ok (.getfield 20, 3) := by decide +kernel
theorem dX4_apart_70 : decode cX4_apart 70 = .ok (.bipush 8, 2) := by decide +kernel
theorem dX4_apart_72 : decode cX4_apart 72 = .ok (.iload_n 2, 1) := by decide +kernel
theorem dX4_apart_73 : decode cX4_apart 73 = .ok (.imul, 1) := by decide +kernel
theorem dX4_apart_74 : decode cX4_apart 74 = .ok (.iload_n 1, 1) := by decide +kernel
theorem dX4_apart_75 : decode cX4_apart 75 = .ok (.iadd, 1) := by decide +kernel
theorem dX4_apart_76 : decode cX4_apart 76 = .ok (.iload_n 3, 1) := by decide +kernel
theorem dX4_apart_77 : decode cX4_apart 77 = .ok (.iastore, 1) := by decide +kernel
theorem dX4_apart_78 : decode cX4_apart 78 = .ok (.aload_n 0, 1) := by decide +kernel
theorem dX4_apart_79 : decode cX4_apart 79 = .ok (.iconst 0, 1) := by decide +kernel
theorem dX4_apart_80 : decode cX4_apart 80 = .ok (.putfield 67, 3) := by decide +kernel
theorem dX4_apart_83 : decode cX4_apart 83 = .ok (.iload 4, 2) := by decide +kernel
theorem dX4_apart_85 : decode cX4_apart 85 = .ok (.ireturn, 1) := by decide +kernel
theorem dX4_rounds_0 : decode cX4_rounds 0 = .ok (.aload_n 0, 1) := by decide +kernel
theorem dX4_rounds_1 : decode cX4_rounds 1 = .ok (.getfield 13, 3) := by decide +kernel
theorem dX4_rounds_4 : decode cX4_rounds 4 = .ok (.iconst 2, 1) := by decide +kernel
theorem dX4_rounds_5 : decode cX4_rounds 5 = .ok (.if_icmp .ne 7, 3) := by decide +kernel
theorem dX4_rounds_8 : decode cX4_rounds 8 = .ok (.iconst 1, 1) := by decide +kernel
theorem dX4_rounds_9 : decode cX4_rounds 9 = .ok (.goto 16, 3) := by decide +kernel
theorem dX4_rounds_12 : decode cX4_rounds 12 = .ok (.aload_n 0, 1) := by decide +kernel
theorem dX4_rounds_13 : decode cX4_rounds 13 = .ok (.getfield 13, 3) := by decide +kernel
theorem dX4_rounds_16 : decode cX4_rounds 16 = .ok (.iconst 4, 1) := by decide +kernel
theorem dX4_rounds_17 : decode cX4_rounds 17 = .ok (.if_icmp .ne 7, 3) := by decide +kernel
theorem dX4_rounds_20 : decode cX4_rounds 20 = .ok (.iconst 2, 1) := by decide +kernel
theorem dX4_rounds_21 : decode cX4_rounds 21 = .ok (.goto 4, 3) := by decide +kernel
theorem dX4_rounds_24 : decode cX4_rounds 24 = .ok (.iconst 3, 1) := by decide +kernel
theorem dX4_rounds_25 : decode cX4_rounds 25 = .ok (.ireturn, 1) := by decide +kernel
theorem dX4_startOf_0 : decode cX4_startOf 0 = .ok (.iconst 0, 1) := by decide +kernel
theorem dX4_startOf_1 : decode cX4_startOf 1 = .ok (.istore_n 2, 1) := by decide +kernel
theorem dX4_startOf_2 : decode cX4_startOf 2 = .ok (.iconst 1, 1) := by decide +kernel
theorem dX4_startOf_3 : decode cX4_startOf 3 = .ok (.istore_n 3, 1) := by decide +kernel
theorem dX4_startOf_4 : decode cX4_startOf 4 = .ok (.iload_n 3, 1) := by decide +kernel
theorem dX4_startOf_5 : decode cX4_startOf 5 = .ok (.iload_n 1, 1) := by decide +kernel
theorem dX4_startOf_6 : decode cX4_startOf 6 = .ok (.if_icmp .ge 18, 3) := by decide +kernel
theorem dX4_startOf_9 : decode cX4_startOf 9 = .ok (.iload_n 2, 1) := by decide +kernel
theorem dX4_startOf_10 : decode cX4_startOf 10 = .ok (.aload_n 0, 1) := by decide +kernel
theorem dX4_startOf_11 : decode cX4_startOf 11 = .ok (.getfield 13, 3) := by decide +kernel
theorem dX4_startOf_14 : decode cX4_startOf 14 = .ok (.iload_n 3, 1) := by decide +kernel
theorem dX4_startOf_15 : decode cX4_startOf 15 = .ok (.ishr, 1) := by decide +kernel
theorem dX4_startOf_16 : decode cX4_startOf 16 = .ok (.iadd, 1) := by decide +kernel
theorem dX4_startOf_17 : decode cX4_startOf 17 = .ok (.istore_n 2, 1) := by decide +kernel
theorem dX4_startOf_18 : decode cX4_startOf 18 = .ok (.iinc 3 1, 3) := by decide +kernel
theorem dX4_startOf_21 : decode cX4_startOf 21 = .ok (.goto (-17), 3) := by decide +kernel
theorem dX4_startOf_24 : decode cX4_startOf 24 = .ok (.iload_n 2, 1) := by decide +kernel
theorem dX4_startOf_25 : decode cX4_startOf 25 = .ok (.ireturn, 1) := by decide +kernel
theorem dX4_roundOf_0 : decode cX4_roundOf 0 = .ok (.iconst 1, 1) := by decide +kernel
theorem dX4_roundOf_1 : decode cX4_roundOf 1 = .ok (.istore_n 2, 1) := by decide +kernel
theorem dX4_roundOf_2 : decode cX4_roundOf 2 = .ok (.iload_n 2, 1) := by decide +kernel
theorem dX4_roundOf_3 : decode cX4_roundOf 3 = .ok (.aload_n 0, 1) := by decide +kernel
theorem dX4_roundOf_4 : decode cX4_roundOf 4 = .ok (.invokevirtual 86, 3) := by decide +kernel
theorem dX4_roundOf_7 : decode cX4_roundOf 7 = .ok (.if_icmp .ge 20, 3) := by decide +kernel
theorem dX4_roundOf_10 : decode cX4_roundOf 10 = .ok (.iload_n 1, 1) := by decide +kernel
theorem dX4_roundOf_11 : decode cX4_roundOf 11 = .ok (.aload_n 0, 1) := by decide +kernel
theorem dX4_roundOf_12 : decode cX4_roundOf 12 = .ok (.iload_n 2, 1) := by decide +kernel
theorem dX4_roundOf_13 : decode cX4_roundOf 13 = .ok (.iconst 1, 1) := by decide +kernel
theorem dX4_roundOf_14 : decode cX4_roundOf 14 = .ok (.iadd, 1) := by decide +kernel
theorem dX4_roundOf_15 : decode cX4_roundOf 15 = .ok (.invokevirtual 90, 3) := by decide +kernel
theorem dX4_roundOf_18 : decode cX4_roundOf 18 = .ok (.if_icmp .lt 9, 3) := by decide +kernel
theorem dX4_roundOf_21 : decode cX4_roundOf 21 = .ok (.iinc 2 1, 3) := by decide +kernel
theorem dX4_roundOf_24 : decode cX4_roundOf 24 = .ok (.goto (-22), 3) := by decide +kernel
theorem dX4_roundOf_27 : decode cX4_roundOf 27 = .ok (.iload_n 2, 1) := by decide +kernel
theorem dX4_roundOf_28 : decode cX4_roundOf 28 = .ok (.ireturn, 1) := by decide +kernel
theorem dX4_above_0 : decode cX4_above 0 = .ok (.aload_n 0, 1) := by decide +kernel
theorem dX4_above_1 : decode cX4_above 1 = .ok (.iload_n 2, 1) := by decide +kernel
theorem dX4_above_2 : decode cX4_above 2 = .ok (.invokevirtual 90, 3) := by decide +kernel
theorem dX4_above_5 : decode cX4_above 5 = .ok (.iload_n 1, 1) := by decide +kernel
theorem dX4_above_6 : decode cX4_above 6 = .ok (.iload_n 2, 1) := by decide +kernel
theorem dX4_above_7 : decode cX4_above 7 = .ok (.ishr, 1) := by decide +kernel
theorem dX4_above_8 : decode cX4_above 8 = .ok (.iadd, 1) := by decide +kernel
theorem dX4_above_9 : decode cX4_above 9 = .ok (.ireturn, 1) := by decide +kernel
theorem dX4_meetRound_0 : decode cX4_meetRound 0 = .ok (.iconst 1, 1) := by decide +kernel
theorem dX4_meetRound_1 : decode cX4_meetRound 1 = .ok (.istore_n 2, 1) := by decide +kernel
theorem dX4_meetRound_2 : decode cX4_meetRound 2 = .ok (.iload_n 0, 1) := by decide +kernel
theorem dX4_meetRound_3 : decode cX4_meetRound 3 = .ok (.iload_n 2, 1) := by decide +kernel
theorem dX4_meetRound_4 : decode cX4_meetRound 4 = .ok (.ishr, 1) := by decide +kernel
theorem dX4_meetRound_5 : decode cX4_meetRound 5 = .ok (.iload_n 1, 1) := by decide +kernel
theorem dX4_meetRound_6 : decode cX4_meetRound 6 = .ok (.iload_n 2, 1) := by decide +kernel
theorem dX4_meetRound_7 : decode cX4_meetRound 7 = .ok (.ishr, 1) := by decide +kernel
theorem dX4_meetRound_8 : decode cX4_meetRound 8 = .ok (.if_icmp .eq 9, 3) := by decide +kernel
theorem dX4_meetRound_11 : decode cX4_meetRound 11 = .ok (.iinc 2 1, 3) := by decide +kernel
theorem dX4_meetRound_14 : decode cX4_meetRound 14 = .ok (.goto (-12), 3) := by decide +kernel
theorem dX4_meetRound_17 : decode cX4_meetRound 17 = .ok (.iload_n 2, 1) := by decide +kernel
theorem dX4_meetRound_18 : decode cX4_meetRound 18 = .ok (.ireturn, 1) := by decide +kernel
theorem dX4_cup_0 : decode cX4_cup 0 = .ok (.iload_n 1, 1) := by decide +kernel
theorem dX4_cup_1 : decode cX4_cup 1 = .ok (.iconst 2, 1) := by decide +kernel
theorem dX4_cup_2 : decode cX4_cup 2 = .ok (.if_icmp .eq 17, 3) := by decide +kernel
theorem dX4_cup_5 : decode cX4_cup 5 = .ok (.iload_n 1, 1) := by decide +kernel
theorem dX4_cup_6 : decode cX4_cup 6 = .ok (.iconst 4, 1) := by decide +kernel
theorem dX4_cup_7 : decode cX4_cup 7 = .ok (.if_icmp .eq 12, 3) := by decide +kernel
theorem dX4_cup_10 : decode cX4_cup 10 = .ok (.iload_n 1, 1) := by decide +kernel
theorem dX4_cup_11 : decode cX4_cup 11 = .ok (.bipush 8, 2) := by decide +kernel
theorem dX4_cup_13 : decode cX4_cup 13 = .ok (.if_icmp .eq 6, 3) := by decide +kernel
theorem dX4_cup_16 : decode cX4_cup 16 = .ok (.bipush (-2), 2) := by decide +kernel
theorem dX4_cup_18 : decode cX4_cup 18 = .ok (.ireturn, 1) := by decide +kernel
theorem dX4_cup_19 : decode cX4_cup 19 = .ok (.aload_n 0, 1) := by decide +kernel
theorem dX4_cup_20 : decode cX4_cup 20 = .ok (.getfield 13, 3) := by decide +kernel
theorem dX4_cup_23 : decode cX4_cup 23 = .ok (.istore_n 2, 1) := by decide +kernel
theorem dX4_cup_24 : decode cX4_cup 24 = .ok (.aload_n 0, 1) := by decide +kernel
theorem dX4_cup_25 : decode cX4_cup 25 = .ok (.iload_n 1, 1) := by decide +kernel
theorem dX4_cup_26 : decode cX4_cup 26 = .ok (.putfield 13, 3) := by decide +kernel
theorem dX4_cup_29 : decode cX4_cup 29 = .ok (.aload_n 0, 1) := by decide +kernel
theorem dX4_cup_30 : decode cX4_cup 30 = .ok (.invokevirtual 64, 3) := by decide +kernel
theorem dX4_cup_33 : decode cX4_cup 33 = .ok (.aload_n 0, 1) := by decide +kernel
theorem dX4_cup_34 : decode cX4_cup 34 = .ok (.iconst 0, 1) := by decide +kernel
theorem dX4_cup_35 : decode cX4_cup 35 = .ok (.putfield 67, 3) := by decide +kernel
theorem dX4_cup_38 : decode cX4_cup 38 = .ok (.iload_n 2, 1) := by decide +kernel
theorem dX4_cup_39 : decode cX4_cup 39 = .ok (.ireturn, 1) := by decide +kernel
theorem dX4_placeOf_0 : decode cX4_placeOf 0 = .ok (.iconst 0, 1) := by decide +kernel
theorem dX4_placeOf_1 : decode cX4_placeOf 1 = .ok (.istore_n 2, 1) := by decide +kernel
theorem dX4_placeOf_2 : decode cX4_placeOf 2 = .ok (.iload_n 2, 1) := by decide +kernel
theorem dX4_placeOf_3 : decode cX4_placeOf 3 = .ok (.aload_n 0, 1) := by decide +kernel
theorem dX4_placeOf_4 : decode cX4_placeOf 4 = .ok (.getfield 13, 3) := by decide +kernel
theorem dX4_placeOf_7 : decode cX4_placeOf 7 = .ok (.if_icmp .ge 21, 3) := by decide +kernel
theorem dX4_placeOf_10 : decode cX4_placeOf 10 = .ok (.aload_n 0, 1) := by decide +kernel
theorem dX4_placeOf_11 : decode cX4_placeOf 11 = .ok (.getfield 23, 3) := by decide +kernel
theorem dX4_placeOf_14 : decode cX4_placeOf 14 = .ok (.iload_n 2, 1) := by decide +kernel
theorem dX4_placeOf_15 : decode cX4_placeOf 15 = .ok (.iaload, 1) := by decide +kernel
theorem dX4_placeOf_16 : decode cX4_placeOf 16 = .ok (.iload_n 1, 1) := by decide +kernel
theorem dX4_placeOf_17 : decode cX4_placeOf 17 = .ok (.if_icmp .ne 5, 3) := by decide +kernel
theorem dX4_placeOf_20 : decode cX4_placeOf 20 = .ok (.iload_n 2, 1) := by decide +kernel
theorem dX4_placeOf_21 : decode cX4_placeOf 21 = .ok (.ireturn, 1) := by decide +kernel
theorem dX4_placeOf_22 : decode cX4_placeOf 22 = .ok (.iinc 2 1, 3) := by decide +kernel
theorem dX4_placeOf_25 : decode cX4_placeOf 25 = .ok (.goto (-23), 3) := by decide +kernel
theorem dX4_placeOf_28 : decode cX4_placeOf 28 = .ok (.bipush (-9), 2) := by decide +kernel
theorem dX4_placeOf_30 : decode cX4_placeOf 30 = .ok (.ireturn, 1) := by decide +kernel
theorem dX4_put_0 : decode cX4_put 0 = .ok (.aload_n 0, 1) := by decide +kernel
theorem dX4_put_1 : decode cX4_put 1 = .ok (.iload_n 1, 1) := by decide +kernel
theorem dX4_put_2 : decode cX4_put 2 = .ok (.invokevirtual 94, 3) := by decide +kernel
theorem dX4_put_5 : decode cX4_put 5 = .ok (.ifCond .eq 17, 3) := by decide +kernel
theorem dX4_put_8 : decode cX4_put 8 = .ok (.iload_n 2, 1) := by decide +kernel
theorem dX4_put_9 : decode cX4_put 9 = .ok (.bipush (-9), 2) := by decide +kernel
theorem dX4_put_11 : decode cX4_put 11 = .ok (.if_icmp .eq 13, 3) := by decide +kernel
theorem dX4_put_14 : decode cX4_put 14 = .ok (.aload_n 0, 1) := by decide +kernel
theorem dX4_put_15 : decode cX4_put 15 = .ok (.iload_n 2, 1) := by decide +kernel
theorem dX4_put_16 : decode cX4_put 16 = .ok (.invokevirtual 78, 3) := by decide +kernel
theorem dX4_put_19 : decode cX4_put 19 = .ok (.ifCond .ne 5, 3) := by decide +kernel
theorem dX4_put_22 : decode cX4_put 22 = .ok (.iconst (-1), 1) := by decide +kernel
theorem dX4_put_23 : decode cX4_put 23 = .ok (.ireturn, 1) := by decide +kernel
theorem dX4_put_24 : decode cX4_put 24 = .ok (.iload_n 2, 1) := by decide +kernel
theorem dX4_put_25 : decode cX4_put 25 = .ok (.bipush (-9), 2) := by decide +kernel
theorem dX4_put_27 : decode cX4_put 27 = .ok (.if_icmp .eq 25, 3) := by decide +kernel
theorem dX4_put_30 : decode cX4_put 30 = .ok (.aload_n 0, 1) := by decide +kernel
theorem dX4_put_31 : decode cX4_put 31 = .ok (.iload_n 2, 1) := by decide +kernel
theorem dX4_put_32 : decode cX4_put 32 = .ok (.invokevirtual 97, 3) := by decide +kernel
theorem dX4_put_35 : decode cX4_put 35 = .ok (.bipush (-9), 2) := by decide +kernel
theorem dX4_put_37 : decode cX4_put 37 = .ok (.if_icmp .eq 15, 3) := by decide +kernel
theorem dX4_put_40 : decode cX4_put 40 = .ok (.aload_n 0, 1) := by decide +kernel
theorem dX4_put_41 : decode cX4_put 41 = .ok (.iload_n 2, 1) := by decide +kernel
theorem dX4_put_42 : decode cX4_put 42 = .ok (.invokevirtual 97, 3) := by decide +kernel
theorem dX4_put_45 : decode cX4_put 45 = .ok (.iload_n 1, 1) := by decide +kernel
theorem dX4_put_46 : decode cX4_put 46 = .ok (.if_icmp .eq 6, 3) := by decide +kernel
theorem dX4_put_49 : decode cX4_put 49 = .ok (.bipush (-3), 2) := by decide +kernel
theorem dX4_put_51 : decode cX4_put 51 = .ok (.ireturn, 1) := by decide +kernel
theorem dX4_put_52 : decode cX4_put 52 = .ok (.aload_n 0, 1) := by decide +kernel
theorem dX4_put_53 : decode cX4_put 53 = .ok (.getfield 23, 3) := by decide +kernel
theorem dX4_put_56 : decode cX4_put 56 = .ok (.iload_n 1, 1) := by decide +kernel
