theorem dX11_way_29 : decode cX11_way 29 = .ok (.iload_n 2, 1) := by decide +kernel
theorem dX11_way_30 : decode cX11_way 30 = .ok (.invokevirtual 84, 3) := by decide +kernel
theorem dX11_way_33 : decode cX11_way 33 = .ok (.istore_n 3, 1) := by decide +kernel
theorem dX11_way_34 : decode cX11_way 34 = .ok (.iload_n 3, 1) := by decide +kernel
theorem dX11_way_35 : decode cX11_way 35 = .ok (.ifCond .ge 8, 3) := by decide +kernel
theorem dX11_way_38 : decode cX11_way 38 = .ok (.bipush (-4), 2) := by decide +kernel
theorem dX11_way_40 : decode cX11_way 40 = .ok (.goto 4, 3) := by decide +kernel
theorem dX11_way_43 : decode cX11_way 43 = .ok (.iload_n 3, 1) := by decide +kernel
theorem dX11_way_44 : decode cX11_way 44 = .ok (.ireturn, 1) := by decide +kernel
theorem dX11_days_0 : decode cX11_days 0 = .ok (.iload_n 1, 1) := by decide +kernel
theorem dX11_days_1 : decode cX11_days 1 = .ok (.iconst 1, 1) := by decide +kernel
theorem dX11_days_2 : decode cX11_days 2 = .ok (.sipush 360, 3) := by decide +kernel
theorem dX11_days_5 : decode cX11_days 5 = .ok (.invokestatic 68, 3) := by decide +kernel
theorem dX11_days_8 : decode cX11_days 8 = .ok (.ifCond .eq 15, 3) := by decide +kernel
theorem dX11_days_11 : decode cX11_days 11 = .ok (.aload_n 0, 1) := by decide +kernel
theorem dX11_days_12 : decode cX11_days 12 = .ok (.getfield 88, 3) := by decide +kernel
theorem dX11_days_15 : decode cX11_days 15 = .ok (.iload_n 1, 1) := by decide +kernel
theorem dX11_days_16 : decode cX11_days 16 = .ok (.iadd, 1) := by decide +kernel
theorem dX11_days_17 : decode cX11_days 17 = .ok (.sipush 9999, 3) := by decide +kernel
theorem dX11_days_20 : decode cX11_days 20 = .ok (.if_icmp .le 5, 3) := by decide +kernel
theorem dX11_days_23 : decode cX11_days 23 = .ok (.iconst (-1), 1) := by decide +kernel
theorem dX11_days_24 : decode cX11_days 24 = .ok (.ireturn, 1) := by decide +kernel
theorem dX11_days_25 : decode cX11_days 25 = .ok (.iconst 0, 1) := by decide +kernel
theorem dX11_days_26 : decode cX11_days 26 = .ok (.istore_n 2, 1) := by decide +kernel
theorem dX11_days_27 : decode cX11_days 27 = .ok (.iload_n 2, 1) := by decide +kernel
theorem dX11_days_28 : decode cX11_days 28 = .ok (.iload_n 1, 1) := by decide +kernel
theorem dX11_days_29 : decode cX11_days 29 = .ok (.if_icmp .ge 30, 3) := by decide +kernel
theorem dX11_days_32 : decode cX11_days 32 = .ok (.aload_n 0, 1) := by decide +kernel
theorem dX11_days_33 : decode cX11_days 33 = .ok (.dup, 1) := by decide +kernel
theorem dX11_days_34 : decode cX11_days 34 = .ok (.getfield 88, 3) := by decide +kernel
theorem dX11_days_37 : decode cX11_days 37 = .ok (.iconst 1, 1) := by decide +kernel
theorem dX11_days_38 : decode cX11_days 38 = .ok (.iadd, 1) := by decide +kernel
theorem dX11_days_39 : decode cX11_days 39 = .ok (.putfield 88, 3) := by decide +kernel
theorem dX11_days_42 : decode cX11_days 42 = .ok (.aload_n 0, 1) := by decide +kernel
theorem dX11_days_43 : decode cX11_days 43 = .ok (.getfield 25, 3) := by decide +kernel
theorem dX11_days_46 : decode cX11_days 46 = .ok (.aload_n 0, 1) := by decide +kernel
theorem dX11_days_47 : decode cX11_days 47 = .ok (.getfield 88, 3) := by decide +kernel
theorem dX11_days_50 : decode cX11_days 50 = .ok (.invokevirtual 91, 3) := by decide +kernel
theorem dX11_days_53 : decode cX11_days 53 = .ok (.iinc 2 1, 3) := by decide +kernel
theorem dX11_days_56 : decode cX11_days 56 = .ok (.goto (-29), 3) := by decide +kernel
theorem dX11_days_59 : decode cX11_days 59 = .ok (.aload_n 0, 1) := by decide +kernel
theorem dX11_days_60 : decode cX11_days 60 = .ok (.getfield 88, 3) := by decide +kernel
theorem dX11_days_63 : decode cX11_days 63 = .ok (.ireturn, 1) := by decide +kernel
theorem dX11_rule_0 : decode cX11_rule 0 = .ok (.iload_n 1, 1) := by decide +kernel
theorem dX11_rule_1 : decode cX11_rule 1 = .ok (.ifCond .ne 31, 3) := by decide +kernel
theorem dX11_rule_4 : decode cX11_rule 4 = .ok (.iload_n 2, 1) := by decide +kernel
theorem dX11_rule_5 : decode cX11_rule 5 = .ok (.iconst 1, 1) := by decide +kernel
theorem dX11_rule_6 : decode cX11_rule 6 = .ok (.bipush 99, 2) := by decide +kernel
theorem dX11_rule_8 : decode cX11_rule 8 = .ok (.invokestatic 68, 3) := by decide +kernel
theorem dX11_rule_11 : decode cX11_rule 11 = .ok (.ifCond .eq 21, 3) := by decide +kernel
theorem dX11_rule_14 : decode cX11_rule 14 = .ok (.aload_n 0, 1) := by decide +kernel
theorem dX11_rule_15 : decode cX11_rule 15 = .ok (.getfield 32, 3) := by decide +kernel
theorem dX11_rule_18 : decode cX11_rule 18 = .ok (.getfield 95, 3) := by decide +kernel
theorem dX11_rule_21 : decode cX11_rule 21 = .ok (.istore_n 3, 1) := by decide +kernel
theorem dX11_rule_22 : decode cX11_rule 22 = .ok (.aload_n 0, 1) := by decide +kernel
theorem dX11_rule_23 : decode cX11_rule 23 = .ok (.getfield 32, 3) := by decide +kernel
theorem dX11_rule_26 : decode cX11_rule 26 = .ok (.iload_n 2, 1) := by decide +kernel
theorem dX11_rule_27 : decode cX11_rule 27 = .ok (.putfield 95, 3) := by decide +kernel
theorem dX11_rule_30 : decode cX11_rule 30 = .ok (.iload_n 3, 1) := by decide +kernel
theorem dX11_rule_31 : decode cX11_rule 31 = .ok (.ireturn, 1) := by decide +kernel
theorem dX11_rule_32 : decode cX11_rule 32 = .ok (.iload_n 1, 1) := by decide +kernel
theorem dX11_rule_33 : decode cX11_rule 33 = .ok (.iconst 1, 1) := by decide +kernel
theorem dX11_rule_34 : decode cX11_rule 34 = .ok (.if_icmp .ne 25, 3) := by decide +kernel
theorem dX11_rule_37 : decode cX11_rule 37 = .ok (.iload_n 2, 1) := by decide +kernel
theorem dX11_rule_38 : decode cX11_rule 38 = .ok (.iconst 0, 1) := by decide +kernel
theorem dX11_rule_39 : decode cX11_rule 39 = .ok (.bipush 99, 2) := by decide +kernel
theorem dX11_rule_41 : decode cX11_rule 41 = .ok (.invokestatic 68, 3) := by decide +kernel
theorem dX11_rule_44 : decode cX11_rule 44 = .ok (.ifCond .eq 15, 3) := by decide +kernel
theorem dX11_rule_47 : decode cX11_rule 47 = .ok (.aload_n 0, 1) := by decide +kernel
theorem dX11_rule_48 : decode cX11_rule 48 = .ok (.getfield 9, 3) := by decide +kernel
theorem dX11_rule_51 : decode cX11_rule 51 = .ok (.istore_n 3, 1) := by decide +kernel
theorem dX11_rule_52 : decode cX11_rule 52 = .ok (.aload_n 0, 1) := by decide +kernel
theorem dX11_rule_53 : decode cX11_rule 53 = .ok (.iload_n 2, 1) := by decide +kernel
theorem dX11_rule_54 : decode cX11_rule 54 = .ok (.putfield 9, 3) := by decide +kernel
theorem dX11_rule_57 : decode cX11_rule 57 = .ok (.iload_n 3, 1) := by decide +kernel
theorem dX11_rule_58 : decode cX11_rule 58 = .ok (.ireturn, 1) := by decide +kernel
theorem dX11_rule_59 : decode cX11_rule 59 = .ok (.iconst (-1), 1) := by decide +kernel
theorem dX11_rule_60 : decode cX11_rule 60 = .ok (.ireturn, 1) := by decide +kernel
theorem dX11_open_0 : decode cX11_open 0 = .ok (.aload_n 0, 1) := by decide +kernel
theorem dX11_open_1 : decode cX11_open 1 = .ok (.getfield 16, 3) := by decide +kernel
theorem dX11_open_4 : decode cX11_open 4 = .ok (.iload_n 1, 1) := by decide +kernel
theorem dX11_open_5 : decode cX11_open 5 = .ok (.invokevirtual 76, 3) := by decide +kernel
theorem dX11_open_8 : decode cX11_open 8 = .ok (.ifCond .eq 10, 3) := by decide +kernel
theorem dX11_open_11 : decode cX11_open 11 = .ok (.iload_n 2, 1) := by decide +kernel
theorem dX11_open_12 : decode cX11_open 12 = .ok (.invokestatic 98, 3) := by decide +kernel
theorem dX11_open_15 : decode cX11_open 15 = .ok (.ifCond .ne 5, 3) := by decide +kernel
theorem dX11_open_18 : decode cX11_open 18 = .ok (.iconst (-1), 1) := by decide +kernel
theorem dX11_open_19 : decode cX11_open 19 = .ok (.ireturn, 1) := by decide +kernel
theorem dX11_open_20 : decode cX11_open 20 = .ok (.aload_n 0, 1) := by decide +kernel
theorem dX11_open_21 : decode cX11_open 21 = .ok (.getfield 25, 3) := by decide +kernel
theorem dX11_open_24 : decode cX11_open 24 = .ok (.iload_n 1, 1) := by decide +kernel
theorem dX11_open_25 : decode cX11_open 25 = .ok (.invokevirtual 101, 3) := by decide +kernel
theorem dX11_open_28 : decode cX11_open 28 = .ok (.ifCond .ne 18, 3) := by decide +kernel
theorem dX11_open_31 : decode cX11_open 31 = .ok (.aload_n 0, 1) := by decide +kernel
theorem dX11_open_32 : decode cX11_open 32 = .ok (.getfield 25, 3) := by decide +kernel
theorem dX11_open_35 : decode cX11_open 35 = .ok (.iload_n 1, 1) := by decide +kernel
theorem dX11_open_36 : decode cX11_open 36 = .ok (.iload_n 2, 1) := by decide +kernel
theorem dX11_open_37 : decode cX11_open 37 = .ok (.invokestatic 104, 3) := by decide +kernel
theorem dX11_open_40 : decode cX11_open 40 = .ok (.invokevirtual 107, 3) := by decide +kernel
theorem dX11_open_43 : decode cX11_open 43 = .ok (.ifCond .eq 6, 3) := by decide +kernel
theorem dX11_open_46 : decode cX11_open 46 = .ok (.bipush (-3), 2) := by decide +kernel
theorem dX11_open_48 : decode cX11_open 48 = .ok (.ireturn, 1) := by decide +kernel
theorem dX11_open_49 : decode cX11_open 49 = .ok (.aload_n 0, 1) := by decide +kernel
theorem dX11_open_50 : decode cX11_open 50 = .ok (.getfield 25, 3) := by decide +kernel
theorem dX11_open_53 : decode cX11_open 53 = .ok (.getfield 111, 3) := by decide +kernel
theorem dX11_open_56 : decode cX11_open 56 = .ok (.bipush 40, 2) := by decide +kernel
theorem dX11_open_58 : decode cX11_open 58 = .ok (.if_icmp .lt 6, 3) := by decide +kernel
theorem dX11_open_61 : decode cX11_open 61 = .ok (.bipush (-2), 2) := by decide +kernel
theorem dX11_open_63 : decode cX11_open 63 = .ok (.ireturn, 1) := by decide +kernel
theorem dX11_open_64 : decode cX11_open 64 = .ok (.aload_n 0, 1) := by decide +kernel
theorem dX11_open_65 : decode cX11_open 65 = .ok (.getfield 25, 3) := by decide +kernel
theorem dX11_open_68 : decode cX11_open 68 = .ok (.new 114, 3) := by decide +kernel
theorem dX11_open_71 : decode cX11_open 71 = .ok (.dup, 1) := by decide +kernel
theorem dX11_open_72 : decode cX11_open 72 = .ok (.iload_n 1, 1) := by decide +kernel
theorem dX11_open_73 : decode cX11_open 73 = .ok (.iload_n 2, 1) := by decide +kernel
theorem dX11_open_74 : decode cX11_open 74 = .ok (.invokestatic 104, 3) := by decide +kernel
theorem dX11_open_77 : decode cX11_open 77 = .ok (.iload_n 2, 1) := by decide +kernel
theorem dX11_open_78 : decode cX11_open 78 = .ok (.invokestatic 116, 3) := by decide +kernel
theorem dX11_open_81 : decode cX11_open 81 = .ok (.aload_n 0, 1) := by decide +kernel
theorem dX11_open_82 : decode cX11_open 82 = .ok (.getfield 88, 3) := by decide +kernel
theorem dX11_open_85 : decode cX11_open 85 = .ok (.invokespecial 119, 3) := by decide +kernel
theorem dX11_open_88 : decode cX11_open 88 = .ok (.invokevirtual 122, 3) := by decide +kernel
theorem dX11_open_91 : decode cX11_open 91 = .ok (.ireturn, 1) := by decide +kernel
theorem dX11_close_0 : decode cX11_close 0 = .ok (.aload_n 0, 1) := by decide +kernel
theorem dX11_close_1 : decode cX11_close 1 = .ok (.getfield 25, 3) := by decide +kernel
theorem dX11_close_4 : decode cX11_close 4 = .ok (.iload_n 1, 1) := by decide +kernel
theorem dX11_close_5 : decode cX11_close 5 = .ok (.invokevirtual 126, 3) := by decide +kernel
theorem dX11_close_8 : decode cX11_close 8 = .ok (.astore_n 2, 1) := by decide +kernel
theorem dX11_close_9 : decode cX11_close 9 = .ok (.aload_n 2, 1) := by decide +kernel
theorem dX11_close_10 : decode cX11_close 10 = .ok (.ifnonnull 5, 3) := by decide +kernel
theorem dX11_close_13 : decode cX11_close 13 = .ok (.iconst (-1), 1) := by decide +kernel
theorem dX11_close_14 : decode cX11_close 14 = .ok (.ireturn, 1) := by decide +kernel
theorem dX11_close_15 : decode cX11_close 15 = .ok (.aload_n 2, 1) := by decide +kernel
theorem dX11_close_16 : decode cX11_close 16 = .ok (.invokevirtual 130, 3) := by decide +kernel
theorem dX11_close_19 : decode cX11_close 19 = .ok (.ifCond .ne 6, 3) := by decide +kernel
theorem dX11_close_22 : decode cX11_close 22 = .ok (.bipush (-3), 2) := by decide +kernel
theorem dX11_close_24 : decode cX11_close 24 = .ok (.ireturn, 1) := by decide +kernel
theorem dX11_close_25 : decode cX11_close 25 = .ok (.aload_n 2, 1) := by decide +kernel
theorem dX11_close_26 : decode cX11_close 26 = .ok (.aload_n 0, 1) := by decide +kernel
theorem dX11_close_27 : decode cX11_close 27 = .ok (.getfield 88, 3) := by decide +kernel
theorem dX11_close_30 : decode cX11_close 30 = .ok (.iconst 3, 1) := by decide +kernel
theorem dX11_close_31 : decode cX11_close 31 = .ok (.invokevirtual 134, 3) := by decide +kernel
theorem dX11_close_34 : decode cX11_close 34 = .ok (.iconst 1, 1) := by decide +kernel
theorem dX11_close_35 : decode cX11_close 35 = .ok (.ireturn, 1) := by decide +kernel
theorem dX11_reach_0 : decode cX11_reach 0 = .ok (.aload_n 0, 1) := by decide +kernel
theorem dX11_reach_1 : decode cX11_reach 1 = .ok (.getfield 25, 3) := by decide +kernel
theorem dX11_reach_4 : decode cX11_reach 4 = .ok (.iload_n 1, 1) := by decide +kernel
theorem dX11_reach_5 : decode cX11_reach 5 = .ok (.invokevirtual 126, 3) := by decide +kernel
theorem dX11_reach_8 : decode cX11_reach 8 = .ok (.astore_n 3, 1) := by decide +kernel
theorem dX11_reach_9 : decode cX11_reach 9 = .ok (.aload_n 3, 1) := by decide +kernel
theorem dX11_reach_10 : decode cX11_reach 10 = .ok (.ifnull 14, 3) := by decide +kernel
theorem dX11_reach_13 : decode cX11_reach 13 = .ok (.iload_n 2, 1) := by decide +kernel
theorem dX11_reach_14 : decode cX11_reach 14 = .ok (.iconst 0, 1) := by decide +kernel
theorem dX11_reach_15 : decode cX11_reach 15 = .ok (.sipush 999, 3) := by decide +kernel
theorem dX11_reach_18 : decode cX11_reach 18 = .ok (.invokestatic 68, 3) := by decide +kernel
theorem dX11_reach_21 : decode cX11_reach 21 = .ok (.ifCond .ne 5, 3) := by decide +kernel
theorem dX11_reach_24 : decode cX11_reach 24 = .ok (.iconst (-1), 1) := by decide +kernel
theorem dX11_reach_25 : decode cX11_reach 25 = .ok (.ireturn, 1) := by decide +kernel
theorem dX11_reach_26 : decode cX11_reach 26 = .ok (.aload_n 3, 1) := by decide +kernel
theorem dX11_reach_27 : decode cX11_reach 27 = .ok (.invokevirtual 130, 3) := by decide +kernel
theorem dX11_reach_30 : decode cX11_reach 30 = .ok (.ifCond .ne 6, 3) := by decide +kernel
theorem dX11_reach_33 : decode cX11_reach 33 = .ok (.bipush (-3), 2) := by decide +kernel
theorem dX11_reach_35 : decode cX11_reach 35 = .ok (.ireturn, 1) := by decide +kernel
theorem dX11_reach_36 : decode cX11_reach 36 = .ok (.aload_n 3, 1) := by decide +kernel
theorem dX11_reach_37 : decode cX11_reach 37 = .ok (.getfield 138, 3) := by decide +kernel
theorem dX11_reach_40 : decode cX11_reach 40 = .ok (.istore 4, 2) := by decide +kernel
theorem dX11_reach_42 : decode cX11_reach 42 = .ok (.aload_n 3, 1) := by decide +kernel
theorem dX11_reach_43 : decode cX11_reach 43 = .ok (.iload_n 2, 1) := by decide +kernel
theorem dX11_reach_44 : decode cX11_reach 44 = .ok (.putfield 138, 3) := by decide +kernel
theorem dX11_reach_47 : decode cX11_reach 47 = .ok (.iload 4, 2) := by decide +kernel
theorem dX11_reach_49 : decode cX11_reach 49 = .ok (.ireturn, 1) := by decide +kernel
theorem dX11_whose_0 : decode cX11_whose 0 = .ok (.aload_n 0, 1) := by decide +kernel
theorem dX11_whose_1 : decode cX11_whose 1 = .ok (.getfield 16, 3) := by decide +kernel
theorem dX11_whose_4 : decode cX11_whose 4 = .ok (.iload_n 1, 1) := by decide +kernel
theorem dX11_whose_5 : decode cX11_whose 5 = .ok (.invokevirtual 76, 3) := by decide +kernel
theorem dX11_whose_8 : decode cX11_whose 8 = .ok (.ifCond .ne 5, 3) := by decide +kernel
theorem dX11_whose_11 : decode cX11_whose 11 = .ok (.iconst (-1), 1) := by decide +kernel
theorem dX11_whose_12 : decode cX11_whose 12 = .ok (.ireturn, 1) := by decide +kernel
theorem dX11_whose_13 : decode cX11_whose 13 = .ok (.aload_n 0, 1) := by decide +kernel
theorem dX11_whose_14 : decode cX11_whose 14 = .ok (.getfield 25, 3) := by decide +kernel
theorem dX11_whose_17 : decode cX11_whose 17 = .ok (.iload_n 1, 1) := by decide +kernel
theorem dX11_whose_18 : decode cX11_whose 18 = .ok (.invokevirtual 141, 3) := by decide +kernel
theorem dX11_whose_21 : decode cX11_whose 21 = .ok (.istore_n 2, 1) := by decide +kernel
theorem dX11_whose_22 : decode cX11_whose 22 = .ok (.iload_n 2, 1) := by decide +kernel
theorem dX11_whose_23 : decode cX11_whose 23 = .ok (.ifCond .ge 8, 3) := by decide +kernel
theorem dX11_whose_26 : decode cX11_whose 26 = .ok (.bipush (-4), 2) := by decide +kernel
theorem dX11_whose_28 : decode cX11_whose 28 = .ok (.goto 4, 3) := by decide +kernel
theorem dX11_whose_31 : decode cX11_whose 31 = .ok (.iload_n 2, 1) := by decide +kernel
theorem dX11_whose_32 : decode cX11_whose 32 = .ok (.ireturn, 1) := by decide +kernel
theorem dX11_ofShop_0 : decode cX11_ofShop 0 = .ok (.aload_n 0, 1) := by decide +kernel
theorem dX11_ofShop_1 : decode cX11_ofShop 1 = .ok (.getfield 25, 3) := by decide +kernel
theorem dX11_ofShop_4 : decode cX11_ofShop 4 = .ok (.iload_n 1, 1) := by decide +kernel
theorem dX11_ofShop_5 : decode cX11_ofShop 5 = .ok (.invokevirtual 126, 3) := by decide +kernel
theorem dX11_ofShop_8 : decode cX11_ofShop 8 = .ok (.astore_n 3, 1) := by decide +kernel
theorem dX11_ofShop_9 : decode cX11_ofShop 9 = .ok (.aload_n 3, 1) := by decide +kernel
theorem dX11_ofShop_10 : decode cX11_ofShop 10 = .ok (.ifnonnull 5, 3) := by decide +kernel
theorem dX11_ofShop_13 : decode cX11_ofShop 13 = .ok (.iconst (-1), 1) := by decide +kernel
theorem dX11_ofShop_14 : decode cX11_ofShop 14 = .ok (.ireturn, 1) := by decide +kernel
theorem dX11_ofShop_15 : decode cX11_ofShop 15 = .ok (.iload_n 2, 1) := by decide +kernel
theorem dX11_ofShop_16 : decode cX11_ofShop 16 = .ok (.tableswitch 92 0 7 #[48, 53, 58, 63, 68, 73, 78, 87], 48) := by decide +kernel
theorem dX11_ofShop_64 : decode cX11_ofShop 64 = .ok (.aload_n 3, 1) := by decide +kernel
theorem dX11_ofShop_65 : decode cX11_ofShop 65 = .ok (.getfield 144, 3) := by decide +kernel
theorem dX11_ofShop_68 : decode cX11_ofShop 68 = .ok (.ireturn, 1) := by decide +kernel
theorem dX11_ofShop_69 : decode cX11_ofShop 69 = .ok (.aload_n 3, 1) := by decide +kernel
theorem dX11_ofShop_70 : decode cX11_ofShop 70 = .ok (.getfield 147, 3) := by decide +kernel
theorem dX11_ofShop_73 : decode cX11_ofShop 73 = .ok (.ireturn, 1) := by decide +kernel
theorem dX11_ofShop_74 : decode cX11_ofShop 74 = .ok (.aload_n 3, 1) := by decide +kernel
theorem dX11_ofShop_75 : decode cX11_ofShop 75 = .ok (.getfield 150, 3) := by decide +kernel
theorem dX11_ofShop_78 : decode cX11_ofShop 78 = .ok (.ireturn, 1) := by decide +kernel
theorem dX11_ofShop_79 : decode cX11_ofShop 79 = .ok (.aload_n 3, 1) := by decide +kernel
theorem dX11_ofShop_80 : decode cX11_ofShop 80 = .ok (.getfield 153, 3) := by decide +kernel
theorem dX11_ofShop_83 : decode cX11_ofShop 83 = .ok (.ireturn, 1) := by decide +kernel
theorem dX11_ofShop_84 : decode cX11_ofShop 84 = .ok (.aload_n 3, 1) := by decide +kernel
theorem dX11_ofShop_85 : decode cX11_ofShop 85 = .ok (.getfield 156, 3) := by decide +kernel
theorem dX11_ofShop_88 : decode cX11_ofShop 88 = .ok (.ireturn, 1) := by decide +kernel
theorem dX11_ofShop_89 : decode cX11_ofShop 89 = .ok (.aload_n 3, 1) := by decide +kernel
theorem dX11_ofShop_90 : decode cX11_ofShop 90 = .ok (.getfield 138, 3) := by decide +kernel
theorem dX11_ofShop_93 : decode cX11_ofShop 93 = .ok (.ireturn, 1) := by decide +kernel
theorem dX11_ofShop_94 : decode cX11_ofShop 94 = .ok (.aload_n 0, 1) := by decide +kernel
theorem dX11_ofShop_95 : decode cX11_ofShop 95 = .ok (.getfield 25, 3) := by decide +kernel
theorem dX11_ofShop_98 : decode cX11_ofShop 98 = .ok (.iload_n 1, 1) := by decide +kernel
theorem dX11_ofShop_99 : decode cX11_ofShop 99 = .ok (.invokevirtual 159, 3) := by decide +kernel
theorem dX11_ofShop_102 : decode cX11_ofShop 102 = .ok (.ireturn, 1) := by decide +kernel
theorem dX11_ofShop_103 : decode cX11_ofShop 103 = .ok (.aload_n 3, 1) := by decide +kernel
theorem dX11_ofShop_104 : decode cX11_ofShop 104 = .ok (.getfield 162, 3) := by decide +kernel
theorem dX11_ofShop_107 : decode cX11_ofShop 107 = .ok (.ireturn, 1) := by decide +kernel
theorem dX11_ofShop_108 : decode cX11_ofShop 108 = .ok (.iconst (-1), 1) := by decide +kernel
theorem dX11_ofShop_109 : decode cX11_ofShop 109 = .ok (.ireturn, 1) := by decide +kernel
theorem dX11_foretold_0 : decode cX11_foretold 0 = .ok (.aload_n 0, 1) := by decide +kernel
theorem dX11_foretold_1 : decode cX11_foretold 1 = .ok (.getfield 25, 3) := by decide +kernel
theorem dX11_foretold_4 : decode cX11_foretold 4 = .ok (.iload_n 1, 1) := by decide +kernel
theorem dX11_foretold_5 : decode cX11_foretold 5 = .ok (.invokevirtual 126, 3) := by decide +kernel
theorem dX11_foretold_8 : decode cX11_foretold 8 = .ok (.astore_n 2, 1) := by decide +kernel
theorem dX11_foretold_9 : decode cX11_foretold 9 = .ok (.aload_n 2, 1) := by decide +kernel
theorem dX11_foretold_10 : decode cX11_foretold 10 = .ok (.ifnonnull 5, 3) := by decide +kernel
theorem dX11_foretold_13 : decode cX11_foretold 13 = .ok (.iconst (-1), 1) := by decide +kernel
theorem dX11_foretold_14 : decode cX11_foretold 14 = .ok (.ireturn, 1) := by decide +kernel
theorem dX11_foretold_15 : decode cX11_foretold 15 = .ok (.aload_n 2, 1) := by decide +kernel
theorem dX11_foretold_16 : decode cX11_foretold 16 = .ok (.invokevirtual 130, 3) := by decide +kernel
theorem dX11_foretold_19 : decode cX11_foretold 19 = .ok (.ifCond .ne 6, 3) := by decide +kernel
theorem dX11_foretold_22 : decode cX11_foretold 22 = .ok (.bipush (-3), 2) := by decide +kernel
theorem dX11_foretold_24 : decode cX11_foretold 24 = .ok (.ireturn, 1) := by decide +kernel
theorem dX11_foretold_25 : decode cX11_foretold 25 = .ok (.aload_n 0, 1) := by decide +kernel
theorem dX11_foretold_26 : decode cX11_foretold 26 = .ok (.getfield 32, 3) := by decide +kernel
theorem dX11_foretold_29 : decode cX11_foretold 29 = .ok (.aload_n 0, 1) := by decide +kernel
theorem dX11_foretold_30 : decode cX11_foretold 30 = .ok (.getfield 25, 3) := by decide +kernel
theorem dX11_foretold_33 : decode cX11_foretold 33 = .ok (.invokevirtual 165, 3) := by decide +kernel
theorem dX11_foretold_36 : decode cX11_foretold 36 = .ok (.aload_n 0, 1) := by decide +kernel
theorem dX11_foretold_37 : decode cX11_foretold 37 = .ok (.getfield 32, 3) := by decide +kernel
theorem dX11_foretold_40 : decode cX11_foretold 40 = .ok (.iload_n 1, 1) := by decide +kernel
theorem dX11_foretold_41 : decode cX11_foretold 41 = .ok (.invokevirtual 168, 3) := by decide +kernel
theorem dX11_foretold_44 : decode cX11_foretold 44 = .ok (.ireturn, 1) := by decide +kernel
theorem dX11_harm_0 : decode cX11_harm 0 = .ok (.aload_n 0, 1) := by decide +kernel
theorem dX11_harm_1 : decode cX11_harm 1 = .ok (.getfield 25, 3) := by decide +kernel
theorem dX11_harm_4 : decode cX11_harm 4 = .ok (.iload_n 1, 1) := by decide +kernel
theorem dX11_harm_5 : decode cX11_harm 5 = .ok (.invokevirtual 126, 3) := by decide +kernel
theorem dX11_harm_8 : decode cX11_harm 8 = .ok (.astore 4, 2) := by decide +kernel
theorem dX11_harm_10 : decode cX11_harm 10 = .ok (.aload 4, 2) := by decide +kernel
theorem dX11_harm_12 : decode cX11_harm 12 = .ok (.ifnull 24, 3) := by decide +kernel
theorem dX11_harm_15 : decode cX11_harm 15 = .ok (.aload_n 0, 1) := by decide +kernel
theorem dX11_harm_16 : decode cX11_harm 16 = .ok (.getfield 16, 3) := by decide +kernel
theorem dX11_harm_19 : decode cX11_harm 19 = .ok (.iload_n 2, 1) := by decide +kernel
theorem dX11_harm_20 : decode cX11_harm 20 = .ok (.invokevirtual 76, 3) := by decide +kernel
theorem dX11_harm_23 : decode cX11_harm 23 = .ok (.ifCond .eq 13, 3) := by decide +kernel
theorem dX11_harm_26 : decode cX11_harm 26 = .ok (.iload_n 3, 1) := by decide +kernel
theorem dX11_harm_27 : decode cX11_harm 27 = .ok (.iconst 1, 1) := by decide +kernel
theorem dX11_harm_28 : decode cX11_harm 28 = .ok (.bipush 99, 2) := by decide +kernel
theorem dX11_harm_30 : decode cX11_harm 30 = .ok (.invokestatic 68, 3) := by decide +kernel
theorem dX11_harm_33 : decode cX11_harm 33 = .ok (.ifCond .ne 5, 3) := by decide +kernel
theorem dX11_harm_36 : decode cX11_harm 36 = .ok (.iconst (-1), 1) := by decide +kernel
theorem dX11_harm_37 : decode cX11_harm 37 = .ok (.ireturn, 1) := by decide +kernel
theorem dX11_harm_38 : decode cX11_harm 38 = .ok (.aload 4, 2) := by decide +kernel
theorem dX11_harm_40 : decode cX11_harm 40 = .ok (.invokevirtual 130, 3) := by decide +kernel
theorem dX11_harm_43 : decode cX11_harm 43 = .ok (.ifCond .eq 14, 3) := by decide +kernel
theorem dX11_harm_46 : decode cX11_harm 46 = .ok (.aload_n 0, 1) := by decide +kernel
theorem dX11_harm_47 : decode cX11_harm 47 = .ok (.getfield 25, 3) := by decide +kernel
theorem dX11_harm_50 : decode cX11_harm 50 = .ok (.iload_n 2, 1) := by decide +kernel
theorem dX11_harm_51 : decode cX11_harm 51 = .ok (.invokevirtual 101, 3) := by decide +kernel
theorem dX11_harm_54 : decode cX11_harm 54 = .ok (.ifCond .eq 6, 3) := by decide +kernel
theorem dX11_harm_57 : decode cX11_harm 57 = .ok (.bipush (-3), 2) := by decide +kernel
theorem dX11_harm_59 : decode cX11_harm 59 = .ok (.ireturn, 1) := by decide +kernel
theorem dX11_harm_60 : decode cX11_harm 60 = .ok (.aload_n 0, 1) := by decide +kernel
theorem dX11_harm_61 : decode cX11_harm 61 = .ok (.getfield 32, 3) := by decide +kernel
theorem dX11_harm_64 : decode cX11_harm 64 = .ok (.aload_n 0, 1) := by decide +kernel
theorem dX11_harm_65 : decode cX11_harm 65 = .ok (.getfield 25, 3) := by decide +kernel
theorem dX11_harm_68 : decode cX11_harm 68 = .ok (.invokevirtual 165, 3) := by decide +kernel
theorem dX11_harm_71 : decode cX11_harm 71 = .ok (.aload_n 0, 1) := by decide +kernel
theorem dX11_harm_72 : decode cX11_harm 72 = .ok (.getfield 32, 3) := by decide +kernel
theorem dX11_harm_75 : decode cX11_harm 75 = .ok (.iload_n 1, 1) := by decide +kernel
theorem dX11_harm_76 : decode cX11_harm 76 = .ok (.invokevirtual 168, 3) := by decide +kernel
theorem dX11_harm_79 : decode cX11_harm 79 = .ok (.istore 5, 2) := by decide +kernel
theorem dX11_harm_81 : decode cX11_harm 81 = .ok (.aload_n 0, 1) := by decide +kernel
theorem dX11_harm_82 : decode cX11_harm 82 = .ok (.getfield 32, 3) := by decide +kernel
theorem dX11_harm_85 : decode cX11_harm 85 = .ok (.iload_n 2, 1) := by decide +kernel
theorem dX11_harm_86 : decode cX11_harm 86 = .ok (.iload_n 3, 1) := by decide +kernel
theorem dX11_harm_87 : decode cX11_harm 87 = .ok (.iconst (-1), 1) := by decide +kernel
theorem dX11_harm_88 : decode cX11_harm 88 = .ok (.invokevirtual 171, 3) := by decide +kernel
theorem dX11_harm_91 : decode cX11_harm 91 = .ok (.iload 5, 2) := by decide +kernel
theorem dX11_harm_93 : decode cX11_harm 93 = .ok (.aload_n 0, 1) := by decide +kernel
theorem dX11_harm_94 : decode cX11_harm 94 = .ok (.getfield 32, 3) := by decide +kernel
theorem dX11_harm_97 : decode cX11_harm 97 = .ok (.iload_n 1, 1) := by decide +kernel
theorem dX11_harm_98 : decode cX11_harm 98 = .ok (.invokevirtual 168, 3) := by decide +kernel
theorem dX11_harm_101 : decode cX11_harm 101 = .ok (.invokestatic 175, 3) := by decide +kernel
theorem dX11_harm_104 : decode cX11_harm 104 = .ok (.ireturn, 1) := by decide +kernel
theorem dX11_site_0 : decode cX11_site 0 = .ok (.aload_n 0, 1) := by decide +kernel
theorem dX11_site_1 : decode cX11_site 1 = .ok (.getfield 16, 3) := by decide +kernel
theorem dX11_site_4 : decode cX11_site 4 = .ok (.iload_n 1, 1) := by decide +kernel
theorem dX11_site_5 : decode cX11_site 5 = .ok (.invokevirtual 76, 3) := by decide +kernel
theorem dX11_site_8 : decode cX11_site 8 = .ok (.ifCond .eq 14, 3) := by decide +kernel
theorem dX11_site_11 : decode cX11_site 11 = .ok (.aload_n 0, 1) := by decide +kernel
theorem dX11_site_12 : decode cX11_site 12 = .ok (.getfield 16, 3) := by decide +kernel
theorem dX11_site_15 : decode cX11_site 15 = .ok (.iload_n 1, 1) := by decide +kernel
theorem dX11_site_16 : decode cX11_site 16 = .ok (.invokevirtual 178, 3) := by decide +kernel
theorem dX11_site_19 : decode cX11_site 19 = .ok (.ifCond .eq 5, 3) := by decide +kernel
theorem dX11_site_22 : decode cX11_site 22 = .ok (.iconst (-1), 1) := by decide +kernel
theorem dX11_site_23 : decode cX11_site 23 = .ok (.ireturn, 1) := by decide +kernel
theorem dX11_site_24 : decode cX11_site 24 = .ok (.aload_n 0, 1) := by decide +kernel
theorem dX11_site_25 : decode cX11_site 25 = .ok (.getfield 16, 3) := by decide +kernel
theorem dX11_site_28 : decode cX11_site 28 = .ok (.iload_n 1, 1) := by decide +kernel
theorem dX11_site_29 : decode cX11_site 29 = .ok (.invokevirtual 181, 3) := by decide +kernel
theorem dX11_site_32 : decode cX11_site 32 = .ok (.ireturn, 1) := by decide +kernel
theorem dX11_best_0 : decode cX11_best 0 = .ok (.iload_n 1, 1) := by decide +kernel
theorem dX11_best_1 : decode cX11_best 1 = .ok (.iconst 1, 1) := by decide +kernel
theorem dX11_best_2 : decode cX11_best 2 = .ok (.iconst 3, 1) := by decide +kernel
theorem dX11_best_3 : decode cX11_best 3 = .ok (.invokestatic 68, 3) := by decide +kernel
theorem dX11_best_6 : decode cX11_best 6 = .ok (.ifCond .eq 21, 3) := by decide +kernel
theorem dX11_best_9 : decode cX11_best 9 = .ok (.iload_n 2, 1) := by decide +kernel
theorem dX11_best_10 : decode cX11_best 10 = .ok (.invokestatic 98, 3) := by decide +kernel
theorem dX11_best_13 : decode cX11_best 13 = .ok (.ifCond .eq 14, 3) := by decide +kernel
theorem dX11_best_16 : decode cX11_best 16 = .ok (.iload_n 3, 1) := by decide +kernel
theorem dX11_best_17 : decode cX11_best 17 = .ok (.iconst 0, 1) := by decide +kernel
theorem dX11_best_18 : decode cX11_best 18 = .ok (.sipush 1000, 3) := by decide +kernel
theorem dX11_best_21 : decode cX11_best 21 = .ok (.invokestatic 68, 3) := by decide +kernel
theorem dX11_best_24 : decode cX11_best 24 = .ok (.ifCond .ne 5, 3) := by decide +kernel
theorem dX11_best_27 : decode cX11_best 27 = .ok (.iconst (-1), 1) := by decide +kernel
theorem dX11_best_28 : decode cX11_best 28 = .ok (.ireturn, 1) := by decide +kernel
theorem dX11_best_29 : decode cX11_best 29 = .ok (.aload_n 0, 1) := by decide +kernel
theorem dX11_best_30 : decode cX11_best 30 = .ok (.getfield 41, 3) := by decide +kernel
theorem dX11_best_33 : decode cX11_best 33 = .ok (.iload_n 1, 1) := by decide +kernel
theorem dX11_best_34 : decode cX11_best 34 = .ok (.iload_n 2, 1) := by decide +kernel
theorem dX11_best_35 : decode cX11_best 35 = .ok (.iload_n 3, 1) := by decide +kernel
theorem dX11_best_36 : decode cX11_best 36 = .ok (.invokevirtual 184, 3) := by decide +kernel
theorem dX11_best_39 : decode cX11_best 39 = .ok (.ireturn, 1) := by decide +kernel
theorem dX11_found_0 : decode cX11_found 0 = .ok (.aload_n 0, 1) := by decide +kernel
theorem dX11_found_1 : decode cX11_found 1 = .ok (.getfield 41, 3) := by decide +kernel
theorem dX11_found_4 : decode cX11_found 4 = .ok (.iload_n 1, 1) := by decide +kernel
theorem dX11_found_5 : decode cX11_found 5 = .ok (.invokevirtual 187, 3) := by decide +kernel
theorem dX11_found_8 : decode cX11_found 8 = .ok (.ireturn, 1) := by decide +kernel
theorem dX11_feed_0 : decode cX11_feed 0 = .ok (.iload_n 1, 1) := by decide +kernel
theorem dX11_feed_1 : decode cX11_feed 1 = .ok (.iconst 1, 1) := by decide +kernel
theorem dX11_feed_2 : decode cX11_feed 2 = .ok (.iconst 4, 1) := by decide +kernel
theorem dX11_feed_3 : decode cX11_feed 3 = .ok (.invokestatic 68, 3) := by decide +kernel
theorem dX11_feed_6 : decode cX11_feed 6 = .ok (.ifCond .ne 5, 3) := by decide +kernel
theorem dX11_feed_9 : decode cX11_feed 9 = .ok (.iconst (-1), 1) := by decide +kernel
theorem dX11_feed_10 : decode cX11_feed 10 = .ok (.ireturn, 1) := by decide +kernel
theorem dX11_feed_11 : decode cX11_feed 11 = .ok (.aload_n 0, 1) := by decide +kernel
theorem dX11_feed_12 : decode cX11_feed 12 = .ok (.getfield 50, 3) := by decide +kernel
theorem dX11_feed_15 : decode cX11_feed 15 = .ok (.iload_n 1, 1) := by decide +kernel
theorem dX11_feed_16 : decode cX11_feed 16 = .ok (.iload_n 2, 1) := by decide +kernel
theorem dX11_feed_17 : decode cX11_feed 17 = .ok (.invokevirtual 190, 3) := by decide +kernel
theorem dX11_feed_20 : decode cX11_feed 20 = .ok (.ireturn, 1) := by decide +kernel
theorem dX11_terms_0 : decode cX11_terms 0 = .ok (.iload_n 1, 1) := by decide +kernel
theorem dX11_terms_1 : decode cX11_terms 1 = .ok (.invokestatic 193, 3) := by decide +kernel
theorem dX11_terms_4 : decode cX11_terms 4 = .ok (.ifCond .eq 10, 3) := by decide +kernel
theorem dX11_terms_7 : decode cX11_terms 7 = .ok (.iload_n 2, 1) := by decide +kernel
theorem dX11_terms_8 : decode cX11_terms 8 = .ok (.invokestatic 196, 3) := by decide +kernel
theorem dX11_terms_11 : decode cX11_terms 11 = .ok (.ifCond .ne 5, 3) := by decide +kernel
theorem dX11_terms_14 : decode cX11_terms 14 = .ok (.iconst (-1), 1) := by decide +kernel
theorem dX11_terms_15 : decode cX11_terms 15 = .ok (.ireturn, 1) := by decide +kernel
theorem dX11_terms_16 : decode cX11_terms 16 = .ok (.aload_n 0, 1) := by decide +kernel
theorem dX11_terms_17 : decode cX11_terms 17 = .ok (.getfield 50, 3) := by decide +kernel
theorem dX11_terms_20 : decode cX11_terms 20 = .ok (.iload_n 1, 1) := by decide +kernel
theorem dX11_terms_21 : decode cX11_terms 21 = .ok (.iload_n 2, 1) := by decide +kernel
theorem dX11_terms_22 : decode cX11_terms 22 = .ok (.aload_n 0, 1) := by decide +kernel
theorem dX11_terms_23 : decode cX11_terms 23 = .ok (.getfield 88, 3) := by decide +kernel
theorem dX11_terms_26 : decode cX11_terms 26 = .ok (.invokevirtual 199, 3) := by decide +kernel
theorem dX11_terms_29 : decode cX11_terms 29 = .ok (.ireturn, 1) := by decide +kernel
theorem dX11_inForce_0 : decode cX11_inForce 0 = .ok (.iload_n 1, 1) := by decide +kernel
theorem dX11_inForce_1 : decode cX11_inForce 1 = .ok (.invokestatic 193, 3) := by decide +kernel
theorem dX11_inForce_4 : decode cX11_inForce 4 = .ok (.ifCond .eq 17, 3) := by decide +kernel
theorem dX11_inForce_7 : decode cX11_inForce 7 = .ok (.iload_n 2, 1) := by decide +kernel
theorem dX11_inForce_8 : decode cX11_inForce 8 = .ok (.invokestatic 196, 3) := by decide +kernel
theorem dX11_inForce_11 : decode cX11_inForce 11 = .ok (.ifCond .eq 10, 3) := by decide +kernel
theorem dX11_inForce_14 : decode cX11_inForce 14 = .ok (.iload_n 3, 1) := by decide +kernel
theorem dX11_inForce_15 : decode cX11_inForce 15 = .ok (.invokestatic 196, 3) := by decide +kernel
theorem dX11_inForce_18 : decode cX11_inForce 18 = .ok (.ifCond .ne 5, 3) := by decide +kernel
theorem dX11_inForce_21 : decode cX11_inForce 21 = .ok (.iconst (-1), 1) := by decide +kernel
theorem dX11_inForce_22 : decode cX11_inForce 22 = .ok (.ireturn, 1) := by decide +kernel
theorem dX11_inForce_23 : decode cX11_inForce 23 = .ok (.aload_n 0, 1) := by decide +kernel
theorem dX11_inForce_24 : decode cX11_inForce 24 = .ok (.getfield 50, 3) := by decide +kernel
theorem dX11_inForce_27 : decode cX11_inForce 27 = .ok (.iload_n 1, 1) := by decide +kernel
theorem dX11_inForce_28 : decode cX11_inForce 28 = .ok (.iload_n 2, 1) := by decide +kernel
theorem dX11_inForce_29 : decode cX11_inForce 29 = .ok (.iload_n 3, 1) := by decide +kernel
theorem dX11_inForce_30 : decode cX11_inForce 30 = .ok (.invokevirtual 202, 3) := by decide +kernel
theorem dX11_inForce_33 : decode cX11_inForce 33 = .ok (.istore 4, 2) := by decide +kernel
theorem dX11_inForce_35 : decode cX11_inForce 35 = .ok (.iload 4, 2) := by decide +kernel
theorem dX11_inForce_37 : decode cX11_inForce 37 = .ok (.ifCond .ge 8, 3) := by decide +kernel
theorem dX11_inForce_40 : decode cX11_inForce 40 = .ok (.bipush (-4), 2) := by decide +kernel
theorem dX11_inForce_42 : decode cX11_inForce 42 = .ok (.goto 5, 3) := by decide +kernel
theorem dX11_inForce_45 : decode cX11_inForce 45 = .ok (.iload 4, 2) := by decide +kernel
theorem dX11_inForce_47 : decode cX11_inForce 47 = .ok (.ireturn, 1) := by decide +kernel
theorem dX11_gives_0 : decode cX11_gives 0 = .ok (.aload_n 0, 1) := by decide +kernel
theorem dX11_gives_1 : decode cX11_gives 1 = .ok (.getfield 25, 3) := by decide +kernel
theorem dX11_gives_4 : decode cX11_gives 4 = .ok (.iload_n 2, 1) := by decide +kernel
theorem dX11_gives_5 : decode cX11_gives 5 = .ok (.invokevirtual 126, 3) := by decide +kernel
theorem dX11_gives_8 : decode cX11_gives 8 = .ok (.astore 4, 2) := by decide +kernel
theorem dX11_gives_10 : decode cX11_gives 10 = .ok (.aload_n 0, 1) := by decide +kernel
theorem dX11_gives_11 : decode cX11_gives 11 = .ok (.getfield 50, 3) := by decide +kernel
theorem dX11_gives_14 : decode cX11_gives 14 = .ok (.iload_n 1, 1) := by decide +kernel
theorem dX11_gives_15 : decode cX11_gives 15 = .ok (.invokevirtual 205, 3) := by decide +kernel
theorem dX11_gives_18 : decode cX11_gives 18 = .ok (.ifnull 15, 3) := by decide +kernel
theorem dX11_gives_21 : decode cX11_gives 21 = .ok (.aload 4, 2) := by decide +kernel
theorem dX11_gives_23 : decode cX11_gives 23 = .ok (.ifnull 10, 3) := by decide +kernel
theorem dX11_gives_26 : decode cX11_gives 26 = .ok (.iload_n 3, 1) := by decide +kernel
theorem dX11_gives_27 : decode cX11_gives 27 = .ok (.invokestatic 209, 3) := by decide +kernel
theorem dX11_gives_30 : decode cX11_gives 30 = .ok (.ifCond .ne 5, 3) := by decide +kernel
theorem dX11_gives_33 : decode cX11_gives 33 = .ok (.iconst (-1), 1) := by decide +kernel
theorem dX11_gives_34 : decode cX11_gives 34 = .ok (.ireturn, 1) := by decide +kernel
theorem dX11_gives_35 : decode cX11_gives 35 = .ok (.aload_n 0, 1) := by decide +kernel
theorem dX11_gives_36 : decode cX11_gives 36 = .ok (.getfield 50, 3) := by decide +kernel
theorem dX11_gives_39 : decode cX11_gives 39 = .ok (.iload_n 1, 1) := by decide +kernel
theorem dX11_gives_40 : decode cX11_gives 40 = .ok (.aload 4, 2) := by decide +kernel
theorem dX11_gives_42 : decode cX11_gives 42 = .ok (.iload_n 3, 1) := by decide +kernel
theorem dX11_gives_43 : decode cX11_gives 43 = .ok (.invokestatic 212, 3) := by decide +kernel
theorem dX11_gives_46 : decode cX11_gives 46 = .ok (.invokevirtual 215, 3) := by decide +kernel
theorem dX11_gives_49 : decode cX11_gives 49 = .ok (.ireturn, 1) := by decide +kernel
theorem dX11_month_0 : decode cX11_month 0 = .ok (.aload_n 0, 1) := by decide +kernel
theorem dX11_month_1 : decode cX11_month 1 = .ok (.getfield 25, 3) := by decide +kernel
theorem dX11_month_4 : decode cX11_month 4 = .ok (.iload_n 1, 1) := by decide +kernel
theorem dX11_month_5 : decode cX11_month 5 = .ok (.invokevirtual 126, 3) := by decide +kernel
theorem dX11_month_8 : decode cX11_month 8 = .ok (.astore 6, 2) := by decide +kernel
theorem dX11_month_10 : decode cX11_month 10 = .ok (.aload 6, 2) := by decide +kernel
theorem dX11_month_12 : decode cX11_month 12 = .ok (.ifnull 20, 3) := by decide +kernel
theorem dX11_month_15 : decode cX11_month 15 = .ok (.iload_n 2, 1) := by decide +kernel
theorem dX11_month_16 : decode cX11_month 16 = .ok (.invokestatic 209, 3) := by decide +kernel
theorem dX11_month_19 : decode cX11_month 19 = .ok (.ifCond .eq 13, 3) := by decide +kernel
theorem dX11_month_22 : decode cX11_month 22 = .ok (.iload_n 3, 1) := by decide +kernel
theorem dX11_month_23 : decode cX11_month 23 = .ok (.iconst 0, 1) := by decide +kernel
theorem dX11_month_24 : decode cX11_month 24 = .ok (.ldc 219, 2) := by decide +kernel
theorem dX11_month_26 : decode cX11_month 26 = .ok (.invokestatic 68, 3) := by decide +kernel
theorem dX11_month_29 : decode cX11_month 29 = .ok (.ifCond .ne 5, 3) := by decide +kernel
theorem dX11_month_32 : decode cX11_month 32 = .ok (.iconst (-1), 1) := by decide +kernel
theorem dX11_month_33 : decode cX11_month 33 = .ok (.ireturn, 1) := by decide +kernel
theorem dX11_month_34 : decode cX11_month 34 = .ok (.iload 4, 2) := by decide +kernel
theorem dX11_month_36 : decode cX11_month 36 = .ok (.iconst 0, 1) := by decide +kernel
theorem dX11_month_37 : decode cX11_month 37 = .ok (.sipush 9999, 3) := by decide +kernel
theorem dX11_month_40 : decode cX11_month 40 = .ok (.invokestatic 68, 3) := by decide +kernel
theorem dX11_month_43 : decode cX11_month 43 = .ok (.ifCond .eq 15, 3) := by decide +kernel
theorem dX11_month_46 : decode cX11_month 46 = .ok (.iload 5, 2) := by decide +kernel
theorem dX11_month_48 : decode cX11_month 48 = .ok (.iconst 0, 1) := by decide +kernel
theorem dX11_month_49 : decode cX11_month 49 = .ok (.sipush 9999, 3) := by decide +kernel
theorem dX11_month_52 : decode cX11_month 52 = .ok (.invokestatic 68, 3) := by decide +kernel
theorem dX11_month_55 : decode cX11_month 55 = .ok (.ifCond .ne 5, 3) := by decide +kernel
theorem dX11_month_58 : decode cX11_month 58 = .ok (.iconst (-1), 1) := by decide +kernel
theorem dX11_month_59 : decode cX11_month 59 = .ok (.ireturn, 1) := by decide +kernel
theorem dX11_month_60 : decode cX11_month 60 = .ok (.iload_n 2, 1) := by decide +kernel
theorem dX11_month_61 : decode cX11_month 61 = .ok (.invokestatic 212, 3) := by decide +kernel
theorem dX11_month_64 : decode cX11_month 64 = .ok (.istore 7, 2) := by decide +kernel
theorem dX11_month_66 : decode cX11_month 66 = .ok (.aload 6, 2) := by decide +kernel
theorem dX11_month_68 : decode cX11_month 68 = .ok (.iload_n 2, 1) := by decide +kernel
theorem dX11_month_69 : decode cX11_month 69 = .ok (.invokevirtual 220, 3) := by decide +kernel
theorem dX11_month_72 : decode cX11_month 72 = .ok (.ifnonnull 22, 3) := by decide +kernel
theorem dX11_month_75 : decode cX11_month 75 = .ok (.iload 7, 2) := by decide +kernel
theorem dX11_month_77 : decode cX11_month 77 = .ok (.aload_n 0, 1) := by decide +kernel
theorem dX11_month_78 : decode cX11_month 78 = .ok (.getfield 88, 3) := by decide +kernel
theorem dX11_month_81 : decode cX11_month 81 = .ok (.if_icmp .ge 13, 3) := by decide +kernel
theorem dX11_month_84 : decode cX11_month 84 = .ok (.aload 6, 2) := by decide +kernel
theorem dX11_month_86 : decode cX11_month 86 = .ok (.iload 7, 2) := by decide +kernel
theorem dX11_month_88 : decode cX11_month 88 = .ok (.invokevirtual 224, 3) := by decide +kernel
theorem dX11_month_91 : decode cX11_month 91 = .ok (.ifCond .ne 6, 3) := by decide +kernel
theorem dX11_month_94 : decode cX11_month 94 = .ok (.bipush (-3), 2) := by decide +kernel
theorem dX11_month_96 : decode cX11_month 96 = .ok (.ireturn, 1) := by decide +kernel
theorem dX11_month_97 : decode cX11_month 97 = .ok (.new 227, 3) := by decide +kernel
theorem dX11_month_100 : decode cX11_month 100 = .ok (.dup, 1) := by decide +kernel
theorem dX11_month_101 : decode cX11_month 101 = .ok (.iload_n 3, 1) := by decide +kernel
theorem dX11_month_102 : decode cX11_month 102 = .ok (.iload 4, 2) := by decide +kernel
theorem dX11_month_104 : decode cX11_month 104 = .ok (.iload 5, 2) := by decide +kernel
theorem dX11_month_106 : decode cX11_month 106 = .ok (.invokespecial 229, 3) := by decide +kernel
theorem dX11_month_109 : decode cX11_month 109 = .ok (.astore 8, 2) := by decide +kernel
theorem dX11_month_111 : decode cX11_month 111 = .ok (.aload 6, 2) := by decide +kernel
theorem dX11_month_113 : decode cX11_month 113 = .ok (.iload_n 2, 1) := by decide +kernel
theorem dX11_month_114 : decode cX11_month 114 = .ok (.aload 8, 2) := by decide +kernel
theorem dX11_month_116 : decode cX11_month 116 = .ok (.invokevirtual 231, 3) := by decide +kernel
theorem dX11_month_119 : decode cX11_month 119 = .ok (.aload_n 0, 1) := by decide +kernel
theorem dX11_month_120 : decode cX11_month 120 = .ok (.getfield 50, 3) := by decide +kernel
theorem dX11_month_123 : decode cX11_month 123 = .ok (.aload_n 0, 1) := by decide +kernel
theorem dX11_month_124 : decode cX11_month 124 = .ok (.getfield 50, 3) := by decide +kernel
theorem dX11_month_127 : decode cX11_month 127 = .ok (.iconst 0, 1) := by decide +kernel
theorem dX11_month_128 : decode cX11_month 128 = .ok (.iload 7, 2) := by decide +kernel
theorem dX11_month_130 : decode cX11_month 130 = .ok (.aload_n 0, 1) := by decide +kernel
theorem dX11_month_131 : decode cX11_month 131 = .ok (.getfield 88, 3) := by decide +kernel
theorem dX11_month_134 : decode cX11_month 134 = .ok (.invokevirtual 202, 3) := by decide +kernel
theorem dX11_month_137 : decode cX11_month 137 = .ok (.aload 6, 2) := by decide +kernel
theorem dX11_month_139 : decode cX11_month 139 = .ok (.iload 7, 2) := by decide +kernel
theorem dX11_month_141 : decode cX11_month 141 = .ok (.invokevirtual 215, 3) := by decide +kernel
theorem dX11_month_144 : decode cX11_month 144 = .ok (.istore 9, 2) := by decide +kernel
theorem dX11_month_146 : decode cX11_month 146 = .ok (.aload_n 0, 1) := by decide +kernel
theorem dX11_month_147 : decode cX11_month 147 = .ok (.getfield 50, 3) := by decide +kernel
theorem dX11_month_150 : decode cX11_month 150 = .ok (.aload_n 0, 1) := by decide +kernel
theorem dX11_month_151 : decode cX11_month 151 = .ok (.getfield 50, 3) := by decide +kernel
theorem dX11_month_154 : decode cX11_month 154 = .ok (.iconst 1, 1) := by decide +kernel
theorem dX11_month_155 : decode cX11_month 155 = .ok (.iload 7, 2) := by decide +kernel
theorem dX11_month_157 : decode cX11_month 157 = .ok (.aload_n 0, 1) := by decide +kernel
theorem dX11_month_158 : decode cX11_month 158 = .ok (.getfield 88, 3) := by decide +kernel
theorem dX11_month_161 : decode cX11_month 161 = .ok (.invokevirtual 202, 3) := by decide +kernel
theorem dX11_month_164 : decode cX11_month 164 = .ok (.aload 6, 2) := by decide +kernel
theorem dX11_month_166 : decode cX11_month 166 = .ok (.iload 7, 2) := by decide +kernel
theorem dX11_month_168 : decode cX11_month 168 = .ok (.invokevirtual 215, 3) := by decide +kernel
theorem dX11_month_171 : decode cX11_month 171 = .ok (.istore 10, 2) := by decide +kernel
theorem dX11_month_173 : decode cX11_month 173 = .ok (.aload 6, 2) := by decide +kernel
theorem dX11_month_175 : decode cX11_month 175 = .ok (.aload 8, 2) := by decide +kernel
theorem dX11_month_177 : decode cX11_month 177 = .ok (.iload 9, 2) := by decide +kernel
theorem dX11_month_179 : decode cX11_month 179 = .ok (.iload 10, 2) := by decide +kernel
theorem dX11_month_181 : decode cX11_month 181 = .ok (.invokevirtual 235, 3) := by decide +kernel
theorem dX11_month_184 : decode cX11_month 184 = .ok (.aload_n 0, 1) := by decide +kernel
theorem dX11_month_185 : decode cX11_month 185 = .ok (.getfield 57, 3) := by decide +kernel
theorem dX11_month_188 : decode cX11_month 188 = .ok (.dup, 1) := by decide +kernel
theorem dX11_month_189 : decode cX11_month 189 = .ok (.getfield 239, 3) := by decide +kernel
theorem dX11_month_192 : decode cX11_month 192 = .ok (.aload 6, 2) := by decide +kernel
theorem dX11_month_194 : decode cX11_month 194 = .ok (.iconst 0, 1) := by decide +kernel
theorem dX11_month_195 : decode cX11_month 195 = .ok (.aload_n 0, 1) := by decide +kernel
theorem dX11_month_196 : decode cX11_month 196 = .ok (.getfield 88, 3) := by decide +kernel
theorem dX11_month_199 : decode cX11_month 199 = .ok (.invokevirtual 242, 3) := by decide +kernel
theorem dX11_month_202 : decode cX11_month 202 = .ok (.iadd, 1) := by decide +kernel
theorem dX11_month_203 : decode cX11_month 203 = .ok (.putfield 239, 3) := by decide +kernel
theorem dX11_month_206 : decode cX11_month 206 = .ok (.iload 9, 2) := by decide +kernel
theorem dX11_month_208 : decode cX11_month 208 = .ok (.iload 10, 2) := by decide +kernel
theorem dX11_month_210 : decode cX11_month 210 = .ok (.iadd, 1) := by decide +kernel
theorem dX11_month_211 : decode cX11_month 211 = .ok (.ireturn, 1) := by decide +kernel
theorem dX11_isShort_0 : decode cX11_isShort 0 = .ok (.aload_n 0, 1) := by decide +kernel
theorem dX11_isShort_1 : decode cX11_isShort 1 = .ok (.getfield 25, 3) := by decide +kernel
theorem dX11_isShort_4 : decode cX11_isShort 4 = .ok (.iload_n 1, 1) := by decide +kernel
theorem dX11_isShort_5 : decode cX11_isShort 5 = .ok (.invokevirtual 126, 3) := by decide +kernel
theorem dX11_isShort_8 : decode cX11_isShort 8 = .ok (.astore_n 3, 1) := by decide +kernel
theorem dX11_isShort_9 : decode cX11_isShort 9 = .ok (.aload_n 3, 1) := by decide +kernel
theorem dX11_isShort_10 : decode cX11_isShort 10 = .ok (.ifnonnull 5, 3) := by decide +kernel
theorem dX11_isShort_13 : decode cX11_isShort 13 = .ok (.iconst (-1), 1) := by decide +kernel
theorem dX11_isShort_14 : decode cX11_isShort 14 = .ok (.ireturn, 1) := by decide +kernel
theorem dX11_isShort_15 : decode cX11_isShort 15 = .ok (.aload_n 3, 1) := by decide +kernel
theorem dX11_isShort_16 : decode cX11_isShort 16 = .ok (.iload_n 2, 1) := by decide +kernel
theorem dX11_isShort_17 : decode cX11_isShort 17 = .ok (.invokevirtual 220, 3) := by decide +kernel
theorem dX11_isShort_20 : decode cX11_isShort 20 = .ok (.astore 4, 2) := by decide +kernel
theorem dX11_isShort_22 : decode cX11_isShort 22 = .ok (.aload 4, 2) := by decide +kernel
theorem dX11_isShort_24 : decode cX11_isShort 24 = .ok (.ifnonnull 5, 3) := by decide +kernel
theorem dX11_isShort_27 : decode cX11_isShort 27 = .ok (.iconst (-1), 1) := by decide +kernel
theorem dX11_isShort_28 : decode cX11_isShort 28 = .ok (.ireturn, 1) := by decide +kernel
theorem dX11_isShort_29 : decode cX11_isShort 29 = .ok (.aload 4, 2) := by decide +kernel
theorem dX11_isShort_31 : decode cX11_isShort 31 = .ok (.aload_n 0, 1) := by decide +kernel
theorem dX11_isShort_32 : decode cX11_isShort 32 = .ok (.getfield 9, 3) := by decide +kernel
theorem dX11_isShort_35 : decode cX11_isShort 35 = .ok (.invokevirtual 245, 3) := by decide +kernel
theorem dX11_isShort_38 : decode cX11_isShort 38 = .ok (.ifCond .eq 7, 3) := by decide +kernel
theorem dX11_isShort_41 : decode cX11_isShort 41 = .ok (.iconst 1, 1) := by decide +kernel
theorem dX11_isShort_42 : decode cX11_isShort 42 = .ok (.goto 4, 3) := by decide +kernel
theorem dX11_isShort_45 : decode cX11_isShort 45 = .ok (.iconst 0, 1) := by decide +kernel
theorem dX11_isShort_46 : decode cX11_isShort 46 = .ok (.ireturn, 1) := by decide +kernel
theorem dX11_under_0 : decode cX11_under 0 = .ok (.aload_n 0, 1) := by decide +kernel
theorem dX11_under_1 : decode cX11_under 1 = .ok (.getfield 25, 3) := by decide +kernel
theorem dX11_under_4 : decode cX11_under 4 = .ok (.iload_n 1, 1) := by decide +kernel
theorem dX11_under_5 : decode cX11_under 5 = .ok (.invokevirtual 126, 3) := by decide +kernel
theorem dX11_under_8 : decode cX11_under 8 = .ok (.astore_n 3, 1) := by decide +kernel
theorem dX11_under_9 : decode cX11_under 9 = .ok (.aload_n 3, 1) := by decide +kernel
theorem dX11_under_10 : decode cX11_under 10 = .ok (.ifnull 10, 3) := by decide +kernel
theorem dX11_under_13 : decode cX11_under 13 = .ok (.iload_n 2, 1) := by decide +kernel
theorem dX11_under_14 : decode cX11_under 14 = .ok (.invokestatic 209, 3) := by decide +kernel
theorem dX11_under_17 : decode cX11_under 17 = .ok (.ifCond .ne 5, 3) := by decide +kernel
theorem dX11_under_20 : decode cX11_under 20 = .ok (.iconst (-1), 1) := by decide +kernel
theorem dX11_under_21 : decode cX11_under 21 = .ok (.ireturn, 1) := by decide +kernel
theorem dX11_under_22 : decode cX11_under 22 = .ok (.aload_n 3, 1) := by decide +kernel
theorem dX11_under_23 : decode cX11_under 23 = .ok (.iload_n 2, 1) := by decide +kernel
theorem dX11_under_24 : decode cX11_under 24 = .ok (.aload_n 0, 1) := by decide +kernel
theorem dX11_under_25 : decode cX11_under 25 = .ok (.getfield 9, 3) := by decide +kernel
theorem dX11_under_28 : decode cX11_under 28 = .ok (.invokevirtual 248, 3) := by decide +kernel
theorem dX11_under_31 : decode cX11_under 31 = .ok (.iconst 3, 1) := by decide +kernel
theorem dX11_under_32 : decode cX11_under 32 = .ok (.if_icmp .lt 7, 3) := by decide +kernel
theorem dX11_under_35 : decode cX11_under 35 = .ok (.iconst 1, 1) := by decide +kernel
theorem dX11_under_36 : decode cX11_under 36 = .ok (.goto 4, 3) := by decide +kernel
theorem dX11_under_39 : decode cX11_under 39 = .ok (.iconst 0, 1) := by decide +kernel
theorem dX11_under_40 : decode cX11_under 40 = .ok (.ireturn, 1) := by decide +kernel
theorem dX11_pay_0 : decode cX11_pay 0 = .ok (.aload_n 0, 1) := by decide +kernel
theorem dX11_pay_1 : decode cX11_pay 1 = .ok (.getfield 25, 3) := by decide +kernel
theorem dX11_pay_4 : decode cX11_pay 4 = .ok (.iload_n 1, 1) := by decide +kernel
theorem dX11_pay_5 : decode cX11_pay 5 = .ok (.invokevirtual 126, 3) := by decide +kernel
theorem dX11_pay_8 : decode cX11_pay 8 = .ok (.astore_n 3, 1) := by decide +kernel
theorem dX11_pay_9 : decode cX11_pay 9 = .ok (.aload_n 3, 1) := by decide +kernel
theorem dX11_pay_10 : decode cX11_pay 10 = .ok (.ifnull 13, 3) := by decide +kernel
theorem dX11_pay_13 : decode cX11_pay 13 = .ok (.iload_n 2, 1) := by decide +kernel
theorem dX11_pay_14 : decode cX11_pay 14 = .ok (.iconst 1, 1) := by decide +kernel
theorem dX11_pay_15 : decode cX11_pay 15 = .ok (.ldc 251, 2) := by decide +kernel
theorem dX11_pay_17 : decode cX11_pay 17 = .ok (.invokestatic 68, 3) := by decide +kernel
theorem dX11_pay_20 : decode cX11_pay 20 = .ok (.ifCond .ne 6, 3) := by decide +kernel
theorem dX11_pay_23 : decode cX11_pay 23 = .ok (.ldc 252, 2) := by decide +kernel
theorem dX11_pay_25 : decode cX11_pay 25 = .ok (.ireturn, 1) := by decide +kernel
theorem dX11_pay_26 : decode cX11_pay 26 = .ok (.aload_n 0, 1) := by decide +kernel
theorem dX11_pay_27 : decode cX11_pay 27 = .ok (.getfield 57, 3) := by decide +kernel
theorem dX11_pay_30 : decode cX11_pay 30 = .ok (.dup, 1) := by decide +kernel
theorem dX11_pay_31 : decode cX11_pay 31 = .ok (.getfield 239, 3) := by decide +kernel
theorem dX11_pay_34 : decode cX11_pay 34 = .ok (.aload_n 3, 1) := by decide +kernel
theorem dX11_pay_35 : decode cX11_pay 35 = .ok (.iload_n 2, 1) := by decide +kernel
theorem dX11_pay_36 : decode cX11_pay 36 = .ok (.aload_n 0, 1) := by decide +kernel
theorem dX11_pay_37 : decode cX11_pay 37 = .ok (.getfield 88, 3) := by decide +kernel
theorem dX11_pay_40 : decode cX11_pay 40 = .ok (.invokevirtual 242, 3) := by decide +kernel
theorem dX11_pay_43 : decode cX11_pay 43 = .ok (.iadd, 1) := by decide +kernel
theorem dX11_pay_44 : decode cX11_pay 44 = .ok (.putfield 239, 3) := by decide +kernel
theorem dX11_pay_47 : decode cX11_pay 47 = .ok (.aload_n 3, 1) := by decide +kernel
theorem dX11_pay_48 : decode cX11_pay 48 = .ok (.invokevirtual 253, 3) := by decide +kernel
theorem dX11_pay_51 : decode cX11_pay 51 = .ok (.ireturn, 1) := by decide +kernel
theorem dX11_owed_0 : decode cX11_owed 0 = .ok (.aload_n 0, 1) := by decide +kernel
theorem dX11_owed_1 : decode cX11_owed 1 = .ok (.getfield 25, 3) := by decide +kernel
theorem dX11_owed_4 : decode cX11_owed 4 = .ok (.iload_n 1, 1) := by decide +kernel
theorem dX11_owed_5 : decode cX11_owed 5 = .ok (.invokevirtual 126, 3) := by decide +kernel
theorem dX11_owed_8 : decode cX11_owed 8 = .ok (.astore_n 2, 1) := by decide +kernel
theorem dX11_owed_9 : decode cX11_owed 9 = .ok (.aload_n 2, 1) := by decide +kernel
theorem dX11_owed_10 : decode cX11_owed 10 = .ok (.ifnonnull 8, 3) := by decide +kernel
theorem dX11_owed_13 : decode cX11_owed 13 = .ok (.ldc 252, 2) := by decide +kernel
theorem dX11_owed_15 : decode cX11_owed 15 = .ok (.goto 7, 3) := by decide +kernel
theorem dX11_owed_18 : decode cX11_owed 18 = .ok (.aload_n 2, 1) := by decide +kernel
theorem dX11_owed_19 : decode cX11_owed 19 = .ok (.invokevirtual 253, 3) := by decide +kernel
theorem dX11_owed_22 : decode cX11_owed 22 = .ok (.ireturn, 1) := by decide +kernel
theorem dX11_led_0 : decode cX11_led 0 = .ok (.aload_n 0, 1) := by decide +kernel
theorem dX11_led_1 : decode cX11_led 1 = .ok (.getfield 25, 3) := by decide +kernel
theorem dX11_led_4 : decode cX11_led 4 = .ok (.iload_n 1, 1) := by decide +kernel
theorem dX11_led_5 : decode cX11_led 5 = .ok (.invokevirtual 126, 3) := by decide +kernel
theorem dX11_led_8 : decode cX11_led 8 = .ok (.astore 4, 2) := by decide +kernel
theorem dX11_led_10 : decode cX11_led 10 = .ok (.aload 4, 2) := by decide +kernel
theorem dX11_led_12 : decode cX11_led 12 = .ok (.ifnonnull 5, 3) := by decide +kernel
theorem dX11_led_15 : decode cX11_led 15 = .ok (.iconst (-1), 1) := by decide +kernel
theorem dX11_led_16 : decode cX11_led 16 = .ok (.ireturn, 1) := by decide +kernel
theorem dX11_led_17 : decode cX11_led 17 = .ok (.aload 4, 2) := by decide +kernel
theorem dX11_led_19 : decode cX11_led 19 = .ok (.iload_n 2, 1) := by decide +kernel
theorem dX11_led_20 : decode cX11_led 20 = .ok (.invokevirtual 220, 3) := by decide +kernel
theorem dX11_led_23 : decode cX11_led 23 = .ok (.astore 5, 2) := by decide +kernel
theorem dX11_led_25 : decode cX11_led 25 = .ok (.aload 5, 2) := by decide +kernel
theorem dX11_led_27 : decode cX11_led 27 = .ok (.ifnonnull 5, 3) := by decide +kernel
theorem dX11_led_30 : decode cX11_led 30 = .ok (.iconst (-1), 1) := by decide +kernel
theorem dX11_led_31 : decode cX11_led 31 = .ok (.ireturn, 1) := by decide +kernel
theorem dX11_led_32 : decode cX11_led 32 = .ok (.iload_n 3, 1) := by decide +kernel
theorem dX11_led_33 : decode cX11_led 33 = .ok (.tableswitch 55 0 3 #[31, 37, 43, 49], 31) := by decide +kernel
theorem dX11_led_64 : decode cX11_led 64 = .ok (.aload 5, 2) := by decide +kernel
theorem dX11_led_66 : decode cX11_led 66 = .ok (.getfield 257, 3) := by decide +kernel
theorem dX11_led_69 : decode cX11_led 69 = .ok (.ireturn, 1) := by decide +kernel
theorem dX11_led_70 : decode cX11_led 70 = .ok (.aload 5, 2) := by decide +kernel
theorem dX11_led_72 : decode cX11_led 72 = .ok (.getfield 260, 3) := by decide +kernel
theorem dX11_led_75 : decode cX11_led 75 = .ok (.ireturn, 1) := by decide +kernel
theorem dX11_led_76 : decode cX11_led 76 = .ok (.aload 5, 2) := by decide +kernel
theorem dX11_led_78 : decode cX11_led 78 = .ok (.getfield 262, 3) := by decide +kernel
theorem dX11_led_81 : decode cX11_led 81 = .ok (.ireturn, 1) := by decide +kernel
theorem dX11_led_82 : decode cX11_led 82 = .ok (.aload 5, 2) := by decide +kernel
theorem dX11_led_84 : decode cX11_led 84 = .ok (.getfield 265, 3) := by decide +kernel
theorem dX11_led_87 : decode cX11_led 87 = .ok (.ireturn, 1) := by decide +kernel
theorem dX11_led_88 : decode cX11_led 88 = .ok (.iconst (-1), 1) := by decide +kernel
theorem dX11_led_89 : decode cX11_led 89 = .ok (.ireturn, 1) := by decide +kernel
theorem dX11_notice_0 : decode cX11_notice 0 = .ok (.aload_n 0, 1) := by decide +kernel
theorem dX11_notice_1 : decode cX11_notice 1 = .ok (.getfield 25, 3) := by decide +kernel
theorem dX11_notice_4 : decode cX11_notice 4 = .ok (.iload_n 1, 1) := by decide +kernel
theorem dX11_notice_5 : decode cX11_notice 5 = .ok (.invokevirtual 126, 3) := by decide +kernel
theorem dX11_notice_8 : decode cX11_notice 8 = .ok (.astore_n 2, 1) := by decide +kernel
theorem dX11_notice_9 : decode cX11_notice 9 = .ok (.aload_n 2, 1) := by decide +kernel
theorem dX11_notice_10 : decode cX11_notice 10 = .ok (.ifnonnull 5, 3) := by decide +kernel
theorem dX11_notice_13 : decode cX11_notice 13 = .ok (.iconst (-1), 1) := by decide +kernel
theorem dX11_notice_14 : decode cX11_notice 14 = .ok (.ireturn, 1) := by decide +kernel
theorem dX11_notice_15 : decode cX11_notice 15 = .ok (.aload_n 2, 1) := by decide +kernel
theorem dX11_notice_16 : decode cX11_notice 16 = .ok (.invokevirtual 253, 3) := by decide +kernel
theorem dX11_notice_19 : decode cX11_notice 19 = .ok (.ifCond .le 17, 3) := by decide +kernel
theorem dX11_notice_22 : decode cX11_notice 22 = .ok (.aload_n 2, 1) := by decide +kernel
theorem dX11_notice_23 : decode cX11_notice 23 = .ok (.invokevirtual 268, 3) := by decide +kernel
theorem dX11_notice_26 : decode cX11_notice 26 = .ok (.ifCond .ne 10, 3) := by decide +kernel
theorem dX11_notice_29 : decode cX11_notice 29 = .ok (.aload_n 2, 1) := by decide +kernel
theorem dX11_notice_30 : decode cX11_notice 30 = .ok (.invokevirtual 130, 3) := by decide +kernel
theorem dX11_notice_33 : decode cX11_notice 33 = .ok (.ifCond .ne 6, 3) := by decide +kernel
theorem dX11_notice_36 : decode cX11_notice 36 = .ok (.bipush (-3), 2) := by decide +kernel
theorem dX11_notice_38 : decode cX11_notice 38 = .ok (.ireturn, 1) := by decide +kernel
theorem dX11_notice_39 : decode cX11_notice 39 = .ok (.aload_n 0, 1) := by decide +kernel
theorem dX11_notice_40 : decode cX11_notice 40 = .ok (.getfield 50, 3) := by decide +kernel
theorem dX11_notice_43 : decode cX11_notice 43 = .ok (.aload_n 0, 1) := by decide +kernel
theorem dX11_notice_44 : decode cX11_notice 44 = .ok (.getfield 50, 3) := by decide +kernel
theorem dX11_notice_47 : decode cX11_notice 47 = .ok (.iconst 2, 1) := by decide +kernel
theorem dX11_notice_48 : decode cX11_notice 48 = .ok (.aload_n 0, 1) := by decide +kernel
theorem dX11_notice_49 : decode cX11_notice 49 = .ok (.getfield 88, 3) := by decide +kernel
theorem dX11_notice_52 : decode cX11_notice 52 = .ok (.aload_n 0, 1) := by decide +kernel
theorem dX11_notice_53 : decode cX11_notice 53 = .ok (.getfield 88, 3) := by decide +kernel
theorem dX11_notice_56 : decode cX11_notice 56 = .ok (.invokevirtual 202, 3) := by decide +kernel
theorem dX11_notice_59 : decode cX11_notice 59 = .ok (.aload_n 2, 1) := by decide +kernel
theorem dX11_notice_60 : decode cX11_notice 60 = .ok (.aload_n 0, 1) := by decide +kernel
theorem dX11_notice_61 : decode cX11_notice 61 = .ok (.getfield 88, 3) := by decide +kernel
theorem dX11_notice_64 : decode cX11_notice 64 = .ok (.invokevirtual 215, 3) := by decide +kernel
theorem dX11_notice_67 : decode cX11_notice 67 = .ok (.istore_n 3, 1) := by decide +kernel
theorem dX11_notice_68 : decode cX11_notice 68 = .ok (.aload_n 2, 1) := by decide +kernel
theorem dX11_notice_69 : decode cX11_notice 69 = .ok (.aload_n 0, 1) := by decide +kernel
theorem dX11_notice_70 : decode cX11_notice 70 = .ok (.getfield 88, 3) := by decide +kernel
theorem dX11_notice_73 : decode cX11_notice 73 = .ok (.aload_n 0, 1) := by decide +kernel
theorem dX11_notice_74 : decode cX11_notice 74 = .ok (.getfield 88, 3) := by decide +kernel
theorem dX11_notice_77 : decode cX11_notice 77 = .ok (.iload_n 3, 1) := by decide +kernel
theorem dX11_notice_78 : decode cX11_notice 78 = .ok (.iadd, 1) := by decide +kernel
theorem dX11_notice_79 : decode cX11_notice 79 = .ok (.invokevirtual 271, 3) := by decide +kernel
theorem dX11_notice_82 : decode cX11_notice 82 = .ok (.aload_n 2, 1) := by decide +kernel
theorem dX11_notice_83 : decode cX11_notice 83 = .ok (.getfield 274, 3) := by decide +kernel
theorem dX11_notice_86 : decode cX11_notice 86 = .ok (.ireturn, 1) := by decide +kernel
theorem dX11_ofNotice_0 : decode cX11_ofNotice 0 = .ok (.aload_n 0, 1) := by decide +kernel
theorem dX11_ofNotice_1 : decode cX11_ofNotice 1 = .ok (.getfield 25, 3) := by decide +kernel
theorem dX11_ofNotice_4 : decode cX11_ofNotice 4 = .ok (.iload_n 1, 1) := by decide +kernel
theorem dX11_ofNotice_5 : decode cX11_ofNotice 5 = .ok (.invokevirtual 126, 3) := by decide +kernel
theorem dX11_ofNotice_8 : decode cX11_ofNotice 8 = .ok (.astore_n 3, 1) := by decide +kernel
theorem dX11_ofNotice_9 : decode cX11_ofNotice 9 = .ok (.aload_n 3, 1) := by decide +kernel
theorem dX11_ofNotice_10 : decode cX11_ofNotice 10 = .ok (.ifnonnull 5, 3) := by decide +kernel
theorem dX11_ofNotice_13 : decode cX11_ofNotice 13 = .ok (.iconst (-1), 1) := by decide +kernel
theorem dX11_ofNotice_14 : decode cX11_ofNotice 14 = .ok (.ireturn, 1) := by decide +kernel
theorem dX11_ofNotice_15 : decode cX11_ofNotice 15 = .ok (.aload_n 3, 1) := by decide +kernel
theorem dX11_ofNotice_16 : decode cX11_ofNotice 16 = .ok (.getfield 277, 3) := by decide +kernel
theorem dX11_ofNotice_19 : decode cX11_ofNotice 19 = .ok (.iconst (-1), 1) := by decide +kernel
theorem dX11_ofNotice_20 : decode cX11_ofNotice 20 = .ok (.if_icmp .ne 5, 3) := by decide +kernel
theorem dX11_ofNotice_23 : decode cX11_ofNotice 23 = .ok (.iconst (-1), 1) := by decide +kernel
theorem dX11_ofNotice_24 : decode cX11_ofNotice 24 = .ok (.ireturn, 1) := by decide +kernel
theorem dX11_ofNotice_25 : decode cX11_ofNotice 25 = .ok (.iload_n 2, 1) := by decide +kernel
theorem dX11_ofNotice_26 : decode cX11_ofNotice 26 = .ok (.tableswitch 50 0 3 #[30, 35, 40, 45], 30) := by decide +kernel
theorem dX11_ofNotice_56 : decode cX11_ofNotice 56 = .ok (.aload_n 3, 1) := by decide +kernel
theorem dX11_ofNotice_57 : decode cX11_ofNotice 57 = .ok (.getfield 277, 3) := by decide +kernel
theorem dX11_ofNotice_60 : decode cX11_ofNotice 60 = .ok (.ireturn, 1) := by decide +kernel
theorem dX11_ofNotice_61 : decode cX11_ofNotice 61 = .ok (.aload_n 3, 1) := by decide +kernel
theorem dX11_ofNotice_62 : decode cX11_ofNotice 62 = .ok (.getfield 274, 3) := by decide +kernel
theorem dX11_ofNotice_65 : decode cX11_ofNotice 65 = .ok (.ireturn, 1) := by decide +kernel
theorem dX11_ofNotice_66 : decode cX11_ofNotice 66 = .ok (.aload_n 3, 1) := by decide +kernel
theorem dX11_ofNotice_67 : decode cX11_ofNotice 67 = .ok (.getfield 280, 3) := by decide +kernel
theorem dX11_ofNotice_70 : decode cX11_ofNotice 70 = .ok (.ireturn, 1) := by decide +kernel
theorem dX11_ofNotice_71 : decode cX11_ofNotice 71 = .ok (.aload_n 3, 1) := by decide +kernel
theorem dX11_ofNotice_72 : decode cX11_ofNotice 72 = .ok (.getfield 283, 3) := by decide +kernel
theorem dX11_ofNotice_75 : decode cX11_ofNotice 75 = .ok (.ireturn, 1) := by decide +kernel
theorem dX11_ofNotice_76 : decode cX11_ofNotice 76 = .ok (.iconst (-1), 1) := by decide +kernel
theorem dX11_ofNotice_77 : decode cX11_ofNotice 77 = .ok (.ireturn, 1) := by decide +kernel
theorem dX11_gain_0 : decode cX11_gain 0 = .ok (.aload_n 0, 1) := by decide +kernel
theorem dX11_gain_1 : decode cX11_gain 1 = .ok (.getfield 25, 3) := by decide +kernel
theorem dX11_gain_4 : decode cX11_gain 4 = .ok (.iload_n 1, 1) := by decide +kernel
theorem dX11_gain_5 : decode cX11_gain 5 = .ok (.invokevirtual 126, 3) := by decide +kernel
theorem dX11_gain_8 : decode cX11_gain 8 = .ok (.astore_n 3, 1) := by decide +kernel
theorem dX11_gain_9 : decode cX11_gain 9 = .ok (.aload_n 3, 1) := by decide +kernel
theorem dX11_gain_10 : decode cX11_gain 10 = .ok (.ifnull 14, 3) := by decide +kernel
theorem dX11_gain_13 : decode cX11_gain 13 = .ok (.iload_n 2, 1) := by decide +kernel
theorem dX11_gain_14 : decode cX11_gain 14 = .ok (.iconst 0, 1) := by decide +kernel
theorem dX11_gain_15 : decode cX11_gain 15 = .ok (.sipush 999, 3) := by decide +kernel
theorem dX11_gain_18 : decode cX11_gain 18 = .ok (.invokestatic 68, 3) := by decide +kernel
theorem dX11_gain_21 : decode cX11_gain 21 = .ok (.ifCond .ne 5, 3) := by decide +kernel
theorem dX11_gain_24 : decode cX11_gain 24 = .ok (.iconst (-1), 1) := by decide +kernel
theorem dX11_gain_25 : decode cX11_gain 25 = .ok (.ireturn, 1) := by decide +kernel
theorem dX11_gain_26 : decode cX11_gain 26 = .ok (.aload_n 3, 1) := by decide +kernel
theorem dX11_gain_27 : decode cX11_gain 27 = .ok (.getfield 286, 3) := by decide +kernel
theorem dX11_gain_30 : decode cX11_gain 30 = .ok (.istore 4, 2) := by decide +kernel
theorem dX11_gain_32 : decode cX11_gain 32 = .ok (.aload_n 3, 1) := by decide +kernel
theorem dX11_gain_33 : decode cX11_gain 33 = .ok (.iload_n 2, 1) := by decide +kernel
theorem dX11_gain_34 : decode cX11_gain 34 = .ok (.putfield 286, 3) := by decide +kernel
theorem dX11_gain_37 : decode cX11_gain 37 = .ok (.iload 4, 2) := by decide +kernel
theorem dX11_gain_39 : decode cX11_gain 39 = .ok (.ireturn, 1) := by decide +kernel
theorem dX11_spend_0 : decode cX11_spend 0 = .ok (.iload_n 1, 1) := by decide +kernel
theorem dX11_spend_1 : decode cX11_spend 1 = .ok (.iconst 1, 1) := by decide +kernel
theorem dX11_spend_2 : decode cX11_spend 2 = .ok (.ldc 251, 2) := by decide +kernel
theorem dX11_spend_4 : decode cX11_spend 4 = .ok (.invokestatic 68, 3) := by decide +kernel
theorem dX11_spend_7 : decode cX11_spend 7 = .ok (.ifCond .ne 5, 3) := by decide +kernel
theorem dX11_spend_10 : decode cX11_spend 10 = .ok (.iconst (-1), 1) := by decide +kernel
theorem dX11_spend_11 : decode cX11_spend 11 = .ok (.ireturn, 1) := by decide +kernel
theorem dX11_spend_12 : decode cX11_spend 12 = .ok (.aload_n 0, 1) := by decide +kernel
theorem dX11_spend_13 : decode cX11_spend 13 = .ok (.getfield 57, 3) := by decide +kernel
theorem dX11_spend_16 : decode cX11_spend 16 = .ok (.iload_n 1, 1) := by decide +kernel
theorem dX11_spend_17 : decode cX11_spend 17 = .ok (.invokevirtual 289, 3) := by decide +kernel
theorem dX11_spend_20 : decode cX11_spend 20 = .ok (.ireturn, 1) := by decide +kernel
theorem dX11_load_0 : decode cX11_load 0 = .ok (.aload_n 0, 1) := by decide +kernel
theorem dX11_load_1 : decode cX11_load 1 = .ok (.getfield 25, 3) := by decide +kernel
theorem dX11_load_4 : decode cX11_load 4 = .ok (.iload_n 1, 1) := by decide +kernel
theorem dX11_load_5 : decode cX11_load 5 = .ok (.invokevirtual 126, 3) := by decide +kernel
theorem dX11_load_8 : decode cX11_load 8 = .ok (.ifnull 24, 3) := by decide +kernel
theorem dX11_load_11 : decode cX11_load 11 = .ok (.iload_n 2, 1) := by decide +kernel
theorem dX11_load_12 : decode cX11_load 12 = .ok (.iconst 1, 1) := by decide +kernel
theorem dX11_load_13 : decode cX11_load 13 = .ok (.bipush 99, 2) := by decide +kernel
theorem dX11_load_15 : decode cX11_load 15 = .ok (.invokestatic 68, 3) := by decide +kernel
theorem dX11_load_18 : decode cX11_load 18 = .ok (.ifCond .eq 14, 3) := by decide +kernel
theorem dX11_load_21 : decode cX11_load 21 = .ok (.aload_n 0, 1) := by decide +kernel
theorem dX11_load_22 : decode cX11_load 22 = .ok (.getfield 64, 3) := by decide +kernel
theorem dX11_load_25 : decode cX11_load 25 = .ok (.iload_n 1, 1) := by decide +kernel
theorem dX11_load_26 : decode cX11_load 26 = .ok (.invokevirtual 292, 3) := by decide +kernel
theorem dX11_load_29 : decode cX11_load 29 = .ok (.ifCond .eq 5, 3) := by decide +kernel
theorem dX11_load_32 : decode cX11_load 32 = .ok (.iconst (-1), 1) := by decide +kernel
theorem dX11_load_33 : decode cX11_load 33 = .ok (.ireturn, 1) := by decide +kernel
theorem dX11_load_34 : decode cX11_load 34 = .ok (.aload_n 0, 1) := by decide +kernel
theorem dX11_load_35 : decode cX11_load 35 = .ok (.getfield 64, 3) := by decide +kernel
theorem dX11_load_38 : decode cX11_load 38 = .ok (.iload_n 1, 1) := by decide +kernel
theorem dX11_load_39 : decode cX11_load 39 = .ok (.iload_n 2, 1) := by decide +kernel
theorem dX11_load_40 : decode cX11_load 40 = .ok (.invokevirtual 295, 3) := by decide +kernel
theorem dX11_load_43 : decode cX11_load 43 = .ok (.ireturn, 1) := by decide +kernel
theorem dX11_carts_0 : decode cX11_carts 0 = .ok (.iload_n 1, 1) := by decide +kernel
theorem dX11_carts_1 : decode cX11_carts 1 = .ok (.iconst 1, 1) := by decide +kernel
theorem dX11_carts_2 : decode cX11_carts 2 = .ok (.bipush 99, 2) := by decide +kernel
theorem dX11_carts_4 : decode cX11_carts 4 = .ok (.invokestatic 68, 3) := by decide +kernel
theorem dX11_carts_7 : decode cX11_carts 7 = .ok (.ifCond .ne 5, 3) := by decide +kernel
theorem dX11_carts_10 : decode cX11_carts 10 = .ok (.iconst (-1), 1) := by decide +kernel
theorem dX11_carts_11 : decode cX11_carts 11 = .ok (.ireturn, 1) := by decide +kernel
theorem dX11_carts_12 : decode cX11_carts 12 = .ok (.aload_n 0, 1) := by decide +kernel
theorem dX11_carts_13 : decode cX11_carts 13 = .ok (.getfield 64, 3) := by decide +kernel
theorem dX11_carts_16 : decode cX11_carts 16 = .ok (.iload_n 1, 1) := by decide +kernel
theorem dX11_carts_17 : decode cX11_carts 17 = .ok (.invokevirtual 298, 3) := by decide +kernel
theorem dX11_carts_20 : decode cX11_carts 20 = .ok (.ireturn, 1) := by decide +kernel
theorem dX11_cart_0 : decode cX11_cart 0 = .ok (.aload_n 0, 1) := by decide +kernel
theorem dX11_cart_1 : decode cX11_cart 1 = .ok (.getfield 64, 3) := by decide +kernel
theorem dX11_cart_4 : decode cX11_cart 4 = .ok (.iload_n 1, 1) := by decide +kernel
theorem dX11_cart_5 : decode cX11_cart 5 = .ok (.invokevirtual 301, 3) := by decide +kernel
theorem dX11_cart_8 : decode cX11_cart 8 = .ok (.ireturn, 1) := by decide +kernel
theorem dX11_count_0 : decode cX11_count 0 = .ok (.iload_n 1, 1) := by decide +kernel
theorem dX11_count_1 : decode cX11_count 1 = .ok (.tableswitch 120 0 8 #[51, 59, 67, 75, 80, 88, 96, 104, 112], 51) := by decide +kernel
theorem dX11_count_52 : decode cX11_count 52 = .ok (.aload_n 0, 1) := by decide +kernel
theorem dX11_count_53 : decode cX11_count 53 = .ok (.getfield 16, 3) := by decide +kernel
theorem dX11_count_56 : decode cX11_count 56 = .ok (.getfield 304, 3) := by decide +kernel
theorem dX11_count_59 : decode cX11_count 59 = .ok (.ireturn, 1) := by decide +kernel
theorem dX11_count_60 : decode cX11_count 60 = .ok (.aload_n 0, 1) := by decide +kernel
theorem dX11_count_61 : decode cX11_count 61 = .ok (.getfield 25, 3) := by decide +kernel
theorem dX11_count_64 : decode cX11_count 64 = .ok (.getfield 111, 3) := by decide +kernel
theorem dX11_count_67 : decode cX11_count 67 = .ok (.ireturn, 1) := by decide +kernel
theorem dX11_count_68 : decode cX11_count 68 = .ok (.aload_n 0, 1) := by decide +kernel
theorem dX11_count_69 : decode cX11_count 69 = .ok (.getfield 25, 3) := by decide +kernel
theorem dX11_count_72 : decode cX11_count 72 = .ok (.invokevirtual 307, 3) := by decide +kernel
theorem dX11_count_75 : decode cX11_count 75 = .ok (.ireturn, 1) := by decide +kernel
theorem dX11_count_76 : decode cX11_count 76 = .ok (.aload_n 0, 1) := by decide +kernel
theorem dX11_count_77 : decode cX11_count 77 = .ok (.getfield 88, 3) := by decide +kernel
theorem dX11_count_80 : decode cX11_count 80 = .ok (.ireturn, 1) := by decide +kernel
theorem dX11_count_81 : decode cX11_count 81 = .ok (.aload_n 0, 1) := by decide +kernel
theorem dX11_count_82 : decode cX11_count 82 = .ok (.getfield 50, 3) := by decide +kernel
theorem dX11_count_85 : decode cX11_count 85 = .ok (.getfield 310, 3) := by decide +kernel
theorem dX11_count_88 : decode cX11_count 88 = .ok (.ireturn, 1) := by decide +kernel
theorem dX11_count_89 : decode cX11_count 89 = .ok (.aload_n 0, 1) := by decide +kernel
theorem dX11_count_90 : decode cX11_count 90 = .ok (.getfield 16, 3) := by decide +kernel
theorem dX11_count_93 : decode cX11_count 93 = .ok (.getfield 313, 3) := by decide +kernel
theorem dX11_count_96 : decode cX11_count 96 = .ok (.ireturn, 1) := by decide +kernel
theorem dX11_count_97 : decode cX11_count 97 = .ok (.aload_n 0, 1) := by decide +kernel
theorem dX11_count_98 : decode cX11_count 98 = .ok (.getfield 57, 3) := by decide +kernel
theorem dX11_count_101 : decode cX11_count 101 = .ok (.getfield 239, 3) := by decide +kernel
theorem dX11_count_104 : decode cX11_count 104 = .ok (.ireturn, 1) := by decide +kernel
theorem dX11_count_105 : decode cX11_count 105 = .ok (.aload_n 0, 1) := by decide +kernel
theorem dX11_count_106 : decode cX11_count 106 = .ok (.getfield 50, 3) := by decide +kernel
theorem dX11_count_109 : decode cX11_count 109 = .ok (.getfield 316, 3) := by decide +kernel
theorem dX11_count_112 : decode cX11_count 112 = .ok (.ireturn, 1) := by decide +kernel
theorem dX11_count_113 : decode cX11_count 113 = .ok (.aload_n 0, 1) := by decide +kernel
theorem dX11_count_114 : decode cX11_count 114 = .ok (.getfield 25, 3) := by decide +kernel
theorem dX11_count_117 : decode cX11_count 117 = .ok (.invokevirtual 319, 3) := by decide +kernel
theorem dX11_count_120 : decode cX11_count 120 = .ok (.ireturn, 1) := by decide +kernel
theorem dX11_count_121 : decode cX11_count 121 = .ok (.iconst (-1), 1) := by decide +kernel
theorem dX11_count_122 : decode cX11_count 122 = .ok (.ireturn, 1) := by decide +kernel
theorem dX11_isWithin_0 : decode cX11_isWithin 0 = .ok (.iload_n 0, 1) := by decide +kernel
theorem dX11_isWithin_1 : decode cX11_isWithin 1 = .ok (.iload_n 1, 1) := by decide +kernel
theorem dX11_isWithin_2 : decode cX11_isWithin 2 = .ok (.if_icmp .lt 12, 3) := by decide +kernel
theorem dX11_isWithin_5 : decode cX11_isWithin 5 = .ok (.iload_n 0, 1) := by decide +kernel
theorem dX11_isWithin_6 : decode cX11_isWithin 6 = .ok (.iload_n 2, 1) := by decide +kernel
theorem dX11_isWithin_7 : decode cX11_isWithin 7 = .ok (.if_icmp .gt 7, 3) := by decide +kernel
theorem dX11_isWithin_10 : decode cX11_isWithin 10 = .ok (.iconst 1, 1) := by decide +kernel
theorem dX11_isWithin_11 : decode cX11_isWithin 11 = .ok (.goto 4, 3) := by decide +kernel
theorem dX11_isWithin_14 : decode cX11_isWithin 14 = .ok (.iconst 0, 1) := by decide +kernel
theorem dX11_isWithin_15 : decode cX11_isWithin 15 = .ok (.ireturn, 1) := by decide +kernel
theorem dX11_isDay_0 : decode cX11_isDay 0 = .ok (.iload_n 0, 1) := by decide +kernel
theorem dX11_isDay_1 : decode cX11_isDay 1 = .ok (.iconst 0, 1) := by decide +kernel
theorem dX11_isDay_2 : decode cX11_isDay 2 = .ok (.sipush 9999, 3) := by decide +kernel
theorem dX11_isDay_5 : decode cX11_isDay 5 = .ok (.invokestatic 68, 3) := by decide +kernel
theorem dX11_isDay_8 : decode cX11_isDay 8 = .ok (.ireturn, 1) := by decide +kernel
theorem dX11_isMonth_0 : decode cX11_isMonth 0 = .ok (.iload_n 0, 1) := by decide +kernel
theorem dX11_isMonth_1 : decode cX11_isMonth 1 = .ok (.iconst 0, 1) := by decide +kernel
theorem dX11_isMonth_2 : decode cX11_isMonth 2 = .ok (.sipush 332, 3) := by decide +kernel
theorem dX11_isMonth_5 : decode cX11_isMonth 5 = .ok (.invokestatic 68, 3) := by decide +kernel
theorem dX11_isMonth_8 : decode cX11_isMonth 8 = .ok (.ireturn, 1) := by decide +kernel
theorem dX11_isKind_0 : decode cX11_isKind 0 = .ok (.iload_n 0, 1) := by decide +kernel
theorem dX11_isKind_1 : decode cX11_isKind 1 = .ok (.iconst 0, 1) := by decide +kernel
theorem dX11_isKind_2 : decode cX11_isKind 2 = .ok (.iconst 2, 1) := by decide +kernel
theorem dX11_isKind_3 : decode cX11_isKind 3 = .ok (.invokestatic 68, 3) := by decide +kernel
theorem dX11_isKind_6 : decode cX11_isKind 6 = .ok (.ireturn, 1) := by decide +kernel
theorem dX11_isWho_0 : decode cX11_isWho 0 = .ok (.iload_n 0, 1) := by decide +kernel
theorem dX11_isWho_1 : decode cX11_isWho 1 = .ok (.iconst 1, 1) := by decide +kernel
theorem dX11_isWho_2 : decode cX11_isWho 2 = .ok (.sipush 1499, 3) := by decide +kernel
theorem dX11_isWho_5 : decode cX11_isWho 5 = .ok (.invokestatic 68, 3) := by decide +kernel
theorem dX11_isWho_8 : decode cX11_isWho 8 = .ok (.ifCond .eq 14, 3) := by decide +kernel
theorem dX11_isWho_11 : decode cX11_isWho 11 = .ok (.iload_n 0, 1) := by decide +kernel
theorem dX11_isWho_12 : decode cX11_isWho 12 = .ok (.invokestatic 116, 3) := by decide +kernel
theorem dX11_isWho_15 : decode cX11_isWho 15 = .ok (.ifCond .eq 7, 3) := by decide +kernel
theorem dX11_isWho_18 : decode cX11_isWho 18 = .ok (.iconst 1, 1) := by decide +kernel
theorem dX11_isWho_19 : decode cX11_isWho 19 = .ok (.goto 4, 3) := by decide +kernel
theorem dX11_isWho_22 : decode cX11_isWho 22 = .ok (.iconst 0, 1) := by decide +kernel
theorem dX11_isWho_23 : decode cX11_isWho 23 = .ok (.ireturn, 1) := by decide +kernel
theorem dX11_ownerIn_0 : decode cX11_ownerIn 0 = .ok (.iload_n 0, 1) := by decide +kernel
theorem dX11_ownerIn_1 : decode cX11_ownerIn 1 = .ok (.bipush 100, 2) := by decide +kernel
theorem dX11_ownerIn_3 : decode cX11_ownerIn 3 = .ok (.idiv, 1) := by decide +kernel
theorem dX11_ownerIn_4 : decode cX11_ownerIn 4 = .ok (.ireturn, 1) := by decide +kernel
theorem dX11_likeIn_0 : decode cX11_likeIn 0 = .ok (.iload_n 0, 1) := by decide +kernel
theorem dX11_likeIn_1 : decode cX11_likeIn 1 = .ok (.bipush 100, 2) := by decide +kernel
theorem dX11_likeIn_3 : decode cX11_likeIn 3 = .ok (.irem, 1) := by decide +kernel
theorem dX11_likeIn_4 : decode cX11_likeIn 4 = .ok (.ireturn, 1) := by decide +kernel
theorem dX11_lastDayOf_0 : decode cX11_lastDayOf 0 = .ok (.iload_n 0, 1) := by decide +kernel
theorem dX11_lastDayOf_1 : decode cX11_lastDayOf 1 = .ok (.bipush 30, 2) := by decide +kernel
theorem dX11_lastDayOf_3 : decode cX11_lastDayOf 3 = .ok (.imul, 1) := by decide +kernel
theorem dX11_lastDayOf_4 : decode cX11_lastDayOf 4 = .ok (.bipush 30, 2) := by decide +kernel
theorem dX11_lastDayOf_6 : decode cX11_lastDayOf 6 = .ok (.iadd, 1) := by decide +kernel
theorem dX11_lastDayOf_7 : decode cX11_lastDayOf 7 = .ok (.iconst 1, 1) := by decide +kernel
theorem dX11_lastDayOf_8 : decode cX11_lastDayOf 8 = .ok (.isub, 1) := by decide +kernel
theorem dX11_lastDayOf_9 : decode cX11_lastDayOf 9 = .ok (.ireturn, 1) := by decide +kernel
theorem dX11_lossInThousandths_0 : decode cX11_lossInThousandths 0 = .ok (.iload_n 0, 1) := by decide +kernel
theorem dX11_lossInThousandths_1 : decode cX11_lossInThousandths 1 = .ok (.ifCond .le 8, 3) := by decide +kernel
theorem dX11_lossInThousandths_4 : decode cX11_lossInThousandths 4 = .ok (.iload_n 1, 1) := by decide +kernel
theorem dX11_lossInThousandths_5 : decode cX11_lossInThousandths 5 = .ok (.iload_n 0, 1) := by decide +kernel
theorem dX11_lossInThousandths_6 : decode cX11_lossInThousandths 6 = .ok (.if_icmp .lt 5, 3) := by decide +kernel
theorem dX11_lossInThousandths_9 : decode cX11_lossInThousandths 9 = .ok (.iconst 0, 1) := by decide +kernel
theorem dX11_lossInThousandths_10 : decode cX11_lossInThousandths 10 = .ok (.ireturn, 1) := by decide +kernel
theorem dX11_lossInThousandths_11 : decode cX11_lossInThousandths 11 = .ok (.iload_n 0, 1) := by decide +kernel
theorem dX11_lossInThousandths_12 : decode cX11_lossInThousandths 12 = .ok (.iload_n 1, 1) := by decide +kernel
theorem dX11_lossInThousandths_13 : decode cX11_lossInThousandths 13 = .ok (.isub, 1) := by decide +kernel
theorem dX11_lossInThousandths_14 : decode cX11_lossInThousandths 14 = .ok (.i2l, 1) := by decide +kernel
theorem dX11_lossInThousandths_15 : decode cX11_lossInThousandths 15 = .ok (.ldc2_w 322, 3) := by decide +kernel
theorem dX11_lossInThousandths_18 : decode cX11_lossInThousandths 18 = .ok (.lmul, 1) := by decide +kernel
theorem dX11_lossInThousandths_19 : decode cX11_lossInThousandths 19 = .ok (.lstore_n 2, 1) := by decide +kernel
theorem dX11_lossInThousandths_20 : decode cX11_lossInThousandths 20 = .ok (.lload_n 2, 1) := by decide +kernel
theorem dX11_lossInThousandths_21 : decode cX11_lossInThousandths 21 = .ok (.iload_n 0, 1) := by decide +kernel
theorem dX11_lossInThousandths_22 : decode cX11_lossInThousandths 22 = .ok (.i2l, 1) := by decide +kernel
theorem dX11_lossInThousandths_23 : decode cX11_lossInThousandths 23 = .ok (.ladd, 1) := by decide +kernel
theorem dX11_lossInThousandths_24 : decode cX11_lossInThousandths 24 = .ok (.lconst 1, 1) := by decide +kernel
theorem dX11_lossInThousandths_25 : decode cX11_lossInThousandths 25 = .ok (.lsub, 1) := by decide +kernel
theorem dX11_lossInThousandths_26 : decode cX11_lossInThousandths 26 = .ok (.iload_n 0, 1) := by decide +kernel
theorem dX11_lossInThousandths_27 : decode cX11_lossInThousandths 27 = .ok (.i2l, 1) := by decide +kernel
theorem dX11_lossInThousandths_28 : decode cX11_lossInThousandths 28 = .ok (.ldiv, 1) := by decide +kernel
theorem dX11_lossInThousandths_29 : decode cX11_lossInThousandths 29 = .ok (.l2i, 1) := by decide +kernel
theorem dX11_lossInThousandths_30 : decode cX11_lossInThousandths 30 = .ok (.ireturn, 1) := by decide +kernel
theorem dX11_at_0 : decode cX11_at 0 = .ok (.iload_n 1, 1) := by decide +kernel
theorem dX11_at_1 : decode cX11_at 1 = .ok (.ifCond .lt 15, 3) := by decide +kernel
theorem dX11_at_4 : decode cX11_at 4 = .ok (.iload_n 1, 1) := by decide +kernel
theorem dX11_at_5 : decode cX11_at 5 = .ok (.aload_n 0, 1) := by decide +kernel
theorem dX11_at_6 : decode cX11_at 6 = .ok (.arraylength, 1) := by decide +kernel
theorem dX11_at_7 : decode cX11_at 7 = .ok (.if_icmp .ge 9, 3) := by decide +kernel
theorem dX11_at_10 : decode cX11_at 10 = .ok (.aload_n 0, 1) := by decide +kernel
theorem dX11_at_11 : decode cX11_at 11 = .ok (.iload_n 1, 1) := by decide +kernel
theorem dX11_at_12 : decode cX11_at 12 = .ok (.iaload, 1) := by decide +kernel
theorem dX11_at_13 : decode cX11_at 13 = .ok (.goto 4, 3) := by decide +kernel
theorem dX11_at_16 : decode cX11_at 16 = .ok (.iconst 0, 1) := by decide +kernel
theorem dX11_at_17 : decode cX11_at 17 = .ok (.ireturn, 1) := by decide +kernel
theorem dX11_put_0 : decode cX11_put 0 = .ok (.iload_n 1, 1) := by decide +kernel
theorem dX11_put_1 : decode cX11_put 1 = .ok (.ifCond .lt 13, 3) := by decide +kernel
theorem dX11_put_4 : decode cX11_put 4 = .ok (.iload_n 1, 1) := by decide +kernel
theorem dX11_put_5 : decode cX11_put 5 = .ok (.aload_n 0, 1) := by decide +kernel
theorem dX11_put_6 : decode cX11_put 6 = .ok (.arraylength, 1) := by decide +kernel
theorem dX11_put_7 : decode cX11_put 7 = .ok (.if_icmp .ge 7, 3) := by decide +kernel
theorem dX11_put_10 : decode cX11_put 10 = .ok (.aload_n 0, 1) := by decide +kernel
theorem dX11_put_11 : decode cX11_put 11 = .ok (.iload_n 1, 1) := by decide +kernel
theorem dX11_put_12 : decode cX11_put 12 = .ok (.iload_n 2, 1) := by decide +kernel
theorem dX11_put_13 : decode cX11_put 13 = .ok (.iastore, 1) := by decide +kernel
theorem dX11_put_14 : decode cX11_put 14 = .ok (.return_, 1) := by decide +kernel
theorem dX12_init_0 : decode cX12_init 0 = .ok (.aload_n 0, 1) := by decide +kernel
theorem dX12_init_1 : decode cX12_init 1 = .ok (.invokespecial 1, 3) := by decide +kernel
theorem dX12_init_4 : decode cX12_init 4 = .ok (.aload_n 0, 1) := by decide +kernel
theorem dX12_init_5 : decode cX12_init 5 = .ok (.bipush 30, 2) := by decide +kernel
theorem dX12_init_7 : decode cX12_init 7 = .ok (.newarray .int, 2) := by decide +kernel
theorem dX12_init_9 : decode cX12_init 9 = .ok (.putfield 9, 3) := by decide +kernel
theorem dX12_init_12 : decode cX12_init 12 = .ok (.aload_n 0, 1) := by decide +kernel
theorem dX12_init_13 : decode cX12_init 13 = .ok (.sipush 900, 3) := by decide +kernel
theorem dX12_init_16 : decode cX12_init 16 = .ok (.newarray .int, 2) := by decide +kernel
theorem dX12_init_18 : decode cX12_init 18 = .ok (.putfield 13, 3) := by decide +kernel
theorem dX12_init_21 : decode cX12_init 21 = .ok (.aload_n 0, 1) := by decide +kernel
theorem dX12_init_22 : decode cX12_init 22 = .ok (.sipush 900, 3) := by decide +kernel
theorem dX12_init_25 : decode cX12_init 25 = .ok (.newarray .int, 2) := by decide +kernel
theorem dX12_init_27 : decode cX12_init 27 = .ok (.putfield 16, 3) := by decide +kernel
theorem dX12_init_30 : decode cX12_init 30 = .ok (.aload_n 0, 1) := by decide +kernel
theorem dX12_init_31 : decode cX12_init 31 = .ok (.bipush 10, 2) := by decide +kernel
theorem dX12_init_33 : decode cX12_init 33 = .ok (.putfield 19, 3) := by decide +kernel
theorem dX12_init_36 : decode cX12_init 36 = .ok (.aload_n 0, 1) := by decide +kernel
theorem dX12_init_37 : decode cX12_init 37 = .ok (.iconst 4, 1) := by decide +kernel
theorem dX12_init_38 : decode cX12_init 38 = .ok (.putfield 23, 3) := by decide +kernel
theorem dX12_init_41 : decode cX12_init 41 = .ok (.aload_n 0, 1) := by decide +kernel
theorem dX12_init_42 : decode cX12_init 42 = .ok (.bipush 43, 2) := by decide +kernel
theorem dX12_init_44 : decode cX12_init 44 = .ok (.newarray .int, 2) := by decide +kernel
theorem dX12_init_46 : decode cX12_init 46 = .ok (.putfield 26, 3) := by decide +kernel
theorem dX12_init_49 : decode cX12_init 49 = .ok (.aload_n 0, 1) := by decide +kernel
theorem dX12_init_50 : decode cX12_init 50 = .ok (.bipush 43, 2) := by decide +kernel
theorem dX12_init_52 : decode cX12_init 52 = .ok (.newarray .int, 2) := by decide +kernel
theorem dX12_init_54 : decode cX12_init 54 = .ok (.putfield 29, 3) := by decide +kernel
theorem dX12_init_57 : decode cX12_init 57 = .ok (.aload_n 0, 1) := by decide +kernel
theorem dX12_init_58 : decode cX12_init 58 = .ok (.bipush 43, 2) := by decide +kernel
theorem dX12_init_60 : decode cX12_init 60 = .ok (.newarray .int, 2) := by decide +kernel
theorem dX12_init_62 : decode cX12_init 62 = .ok (.putfield 32, 3) := by decide +kernel
theorem dX12_init_65 : decode cX12_init 65 = .ok (.aload_n 0, 1) := by decide +kernel
theorem dX12_init_66 : decode cX12_init 66 = .ok (.bipush 40, 2) := by decide +kernel
theorem dX12_init_68 : decode cX12_init 68 = .ok (.newarray .int, 2) := by decide +kernel
theorem dX12_init_70 : decode cX12_init 70 = .ok (.putfield 35, 3) := by decide +kernel
theorem dX12_init_73 : decode cX12_init 73 = .ok (.aload_n 0, 1) := by decide +kernel
theorem dX12_init_74 : decode cX12_init 74 = .ok (.bipush 40, 2) := by decide +kernel
theorem dX12_init_76 : decode cX12_init 76 = .ok (.newarray .int, 2) := by decide +kernel
theorem dX12_init_78 : decode cX12_init 78 = .ok (.putfield 38, 3) := by decide +kernel
theorem dX12_init_81 : decode cX12_init 81 = .ok (.aload_n 0, 1) := by decide +kernel
theorem dX12_init_82 : decode cX12_init 82 = .ok (.bipush 40, 2) := by decide +kernel
theorem dX12_init_84 : decode cX12_init 84 = .ok (.newarray .int, 2) := by decide +kernel
theorem dX12_init_86 : decode cX12_init 86 = .ok (.putfield 41, 3) := by decide +kernel
theorem dX12_init_89 : decode cX12_init 89 = .ok (.aload_n 0, 1) := by decide +kernel
theorem dX12_init_90 : decode cX12_init 90 = .ok (.bipush 40, 2) := by decide +kernel
theorem dX12_init_92 : decode cX12_init 92 = .ok (.newarray .int, 2) := by decide +kernel
theorem dX12_init_94 : decode cX12_init 94 = .ok (.putfield 44, 3) := by decide +kernel
theorem dX12_init_97 : decode cX12_init 97 = .ok (.aload_n 0, 1) := by decide +kernel
theorem dX12_init_98 : decode cX12_init 98 = .ok (.bipush 10, 2) := by decide +kernel
theorem dX12_init_100 : decode cX12_init 100 = .ok (.newarray .int, 2) := by decide +kernel
theorem dX12_init_102 : decode cX12_init 102 = .ok (.putfield 47, 3) := by decide +kernel
theorem dX12_init_105 : decode cX12_init 105 = .ok (.aload_n 0, 1) := by decide +kernel
theorem dX12_init_106 : decode cX12_init 106 = .ok (.iconst 3, 1) := by decide +kernel
theorem dX12_init_107 : decode cX12_init 107 = .ok (.newarray .int, 2) := by decide +kernel
theorem dX12_init_109 : decode cX12_init 109 = .ok (.putfield 50, 3) := by decide +kernel
theorem dX12_init_112 : decode cX12_init 112 = .ok (.aload_n 0, 1) := by decide +kernel
theorem dX12_init_113 : decode cX12_init 113 = .ok (.iconst 3, 1) := by decide +kernel
theorem dX12_init_114 : decode cX12_init 114 = .ok (.newarray .int, 2) := by decide +kernel
theorem dX12_init_116 : decode cX12_init 116 = .ok (.putfield 53, 3) := by decide +kernel
theorem dX12_init_119 : decode cX12_init 119 = .ok (.aload_n 0, 1) := by decide +kernel
theorem dX12_init_120 : decode cX12_init 120 = .ok (.bipush 40, 2) := by decide +kernel
theorem dX12_init_122 : decode cX12_init 122 = .ok (.newarray .long, 2) := by decide +kernel
theorem dX12_init_124 : decode cX12_init 124 = .ok (.putfield 56, 3) := by decide +kernel
theorem dX12_init_127 : decode cX12_init 127 = .ok (.aload_n 0, 1) := by decide +kernel
theorem dX12_init_128 : decode cX12_init 128 = .ok (.bipush 120, 2) := by decide +kernel
theorem dX12_init_130 : decode cX12_init 130 = .ok (.newarray .int, 2) := by decide +kernel
theorem dX12_init_132 : decode cX12_init 132 = .ok (.putfield 60, 3) := by decide +kernel
theorem dX12_init_135 : decode cX12_init 135 = .ok (.aload_n 0, 1) := by decide +kernel
theorem dX12_init_136 : decode cX12_init 136 = .ok (.sipush 2400, 3) := by decide +kernel
theorem dX12_init_139 : decode cX12_init 139 = .ok (.newarray .int, 2) := by decide +kernel
theorem dX12_init_141 : decode cX12_init 141 = .ok (.putfield 63, 3) := by decide +kernel
theorem dX12_init_144 : decode cX12_init 144 = .ok (.aload_n 0, 1) := by decide +kernel
theorem dX12_init_145 : decode cX12_init 145 = .ok (.bipush 20, 2) := by decide +kernel
theorem dX12_init_147 : decode cX12_init 147 = .ok (.newarray .int, 2) := by decide +kernel
theorem dX12_init_149 : decode cX12_init 149 = .ok (.putfield 66, 3) := by decide +kernel
theorem dX12_init_152 : decode cX12_init 152 = .ok (.aload_n 0, 1) := by decide +kernel
theorem dX12_init_153 : decode cX12_init 153 = .ok (.bipush 20, 2) := by decide +kernel
theorem dX12_init_155 : decode cX12_init 155 = .ok (.newarray .int, 2) := by decide +kernel
theorem dX12_init_157 : decode cX12_init 157 = .ok (.putfield 69, 3) := by decide +kernel
theorem dX12_init_160 : decode cX12_init 160 = .ok (.aload_n 0, 1) := by decide +kernel
theorem dX12_init_161 : decode cX12_init 161 = .ok (.bipush 20, 2) := by decide +kernel
theorem dX12_init_163 : decode cX12_init 163 = .ok (.newarray .int, 2) := by decide +kernel
theorem dX12_init_165 : decode cX12_init 165 = .ok (.putfield 72, 3) := by decide +kernel
theorem dX12_init_168 : decode cX12_init 168 = .ok (.aload_n 0, 1) := by decide +kernel
theorem dX12_init_169 : decode cX12_init 169 = .ok (.bipush 20, 2) := by decide +kernel
theorem dX12_init_171 : decode cX12_init 171 = .ok (.newarray .int, 2) := by decide +kernel
theorem dX12_init_173 : decode cX12_init 173 = .ok (.putfield 75, 3) := by decide +kernel
theorem dX12_init_176 : decode cX12_init 176 = .ok (.aload_n 0, 1) := by decide +kernel
theorem dX12_init_177 : decode cX12_init 177 = .ok (.iconst 5, 1) := by decide +kernel
theorem dX12_init_178 : decode cX12_init 178 = .ok (.newarray .int, 2) := by decide +kernel
theorem dX12_init_180 : decode cX12_init 180 = .ok (.putfield 78, 3) := by decide +kernel
theorem dX12_init_183 : decode cX12_init 183 = .ok (.aload_n 0, 1) := by decide +kernel
theorem dX12_init_184 : decode cX12_init 184 = .ok (.sipush 13320, 3) := by decide +kernel
theorem dX12_init_187 : decode cX12_init 187 = .ok (.newarray .boolean, 2) := by decide +kernel
theorem dX12_init_189 : decode cX12_init 189 = .ok (.putfield 81, 3) := by decide +kernel
theorem dX12_init_192 : decode cX12_init 192 = .ok (.aload_n 0, 1) := by decide +kernel
theorem dX12_init_193 : decode cX12_init 193 = .ok (.sipush 13320, 3) := by decide +kernel
theorem dX12_init_196 : decode cX12_init 196 = .ok (.newarray .int, 2) := by decide +kernel
theorem dX12_init_198 : decode cX12_init 198 = .ok (.putfield 85, 3) := by decide +kernel
theorem dX12_init_201 : decode cX12_init 201 = .ok (.aload_n 0, 1) := by decide +kernel
theorem dX12_init_202 : decode cX12_init 202 = .ok (.sipush 13320, 3) := by decide +kernel
theorem dX12_init_205 : decode cX12_init 205 = .ok (.newarray .int, 2) := by decide +kernel
theorem dX12_init_207 : decode cX12_init 207 = .ok (.putfield 88, 3) := by decide +kernel
theorem dX12_init_210 : decode cX12_init 210 = .ok (.aload_n 0, 1) := by decide +kernel
theorem dX12_init_211 : decode cX12_init 211 = .ok (.sipush 13320, 3) := by decide +kernel
theorem dX12_init_214 : decode cX12_init 214 = .ok (.newarray .int, 2) := by decide +kernel
theorem dX12_init_216 : decode cX12_init 216 = .ok (.putfield 91, 3) := by decide +kernel
theorem dX12_init_219 : decode cX12_init 219 = .ok (.aload_n 0, 1) := by decide +kernel
theorem dX12_init_220 : decode cX12_init 220 = .ok (.sipush 13320, 3) := by decide +kernel
theorem dX12_init_223 : decode cX12_init 223 = .ok (.newarray .int, 2) := by decide +kernel
theorem dX12_init_225 : decode cX12_init 225 = .ok (.putfield 94, 3) := by decide +kernel
theorem dX12_init_228 : decode cX12_init 228 = .ok (.aload_n 0, 1) := by decide +kernel
theorem dX12_init_229 : decode cX12_init 229 = .ok (.sipush 13320, 3) := by decide +kernel
theorem dX12_init_232 : decode cX12_init 232 = .ok (.newarray .int, 2) := by decide +kernel
theorem dX12_init_234 : decode cX12_init 234 = .ok (.putfield 97, 3) := by decide +kernel
theorem dX12_init_237 : decode cX12_init 237 = .ok (.aload_n 0, 1) := by decide +kernel
theorem dX12_init_238 : decode cX12_init 238 = .ok (.sipush 13320, 3) := by decide +kernel
theorem dX12_init_241 : decode cX12_init 241 = .ok (.newarray .int, 2) := by decide +kernel
theorem dX12_init_243 : decode cX12_init 243 = .ok (.putfield 100, 3) := by decide +kernel
theorem dX12_init_246 : decode cX12_init 246 = .ok (.aload_n 0, 1) := by decide +kernel
theorem dX12_init_247 : decode cX12_init 247 = .ok (.sipush 13320, 3) := by decide +kernel
theorem dX12_init_250 : decode cX12_init 250 = .ok (.newarray .int, 2) := by decide +kernel
theorem dX12_init_252 : decode cX12_init 252 = .ok (.putfield 103, 3) := by decide +kernel
theorem dX12_init_255 : decode cX12_init 255 = .ok (.aload_n 0, 1) := by decide +kernel
theorem dX12_init_256 : decode cX12_init 256 = .ok (.bipush 40, 2) := by decide +kernel
theorem dX12_init_258 : decode cX12_init 258 = .ok (.newarray .int, 2) := by decide +kernel
theorem dX12_init_260 : decode cX12_init 260 = .ok (.putfield 106, 3) := by decide +kernel
theorem dX12_init_263 : decode cX12_init 263 = .ok (.aload_n 0, 1) := by decide +kernel
theorem dX12_init_264 : decode cX12_init 264 = .ok (.bipush 40, 2) := by decide +kernel
theorem dX12_init_266 : decode cX12_init 266 = .ok (.newarray .int, 2) := by decide +kernel
theorem dX12_init_268 : decode cX12_init 268 = .ok (.putfield 109, 3) := by decide +kernel
theorem dX12_init_271 : decode cX12_init 271 = .ok (.aload_n 0, 1) := by decide +kernel
theorem dX12_init_272 : decode cX12_init 272 = .ok (.bipush 40, 2) := by decide +kernel
theorem dX12_init_274 : decode cX12_init 274 = .ok (.newarray .int, 2) := by decide +kernel
theorem dX12_init_276 : decode cX12_init 276 = .ok (.putfield 112, 3) := by decide +kernel
theorem dX12_init_279 : decode cX12_init 279 = .ok (.aload_n 0, 1) := by decide +kernel
theorem dX12_init_280 : decode cX12_init 280 = .ok (.bipush 40, 2) := by decide +kernel
theorem dX12_init_282 : decode cX12_init 282 = .ok (.newarray .int, 2) := by decide +kernel
theorem dX12_init_284 : decode cX12_init 284 = .ok (.putfield 115, 3) := by decide +kernel
theorem dX12_init_287 : decode cX12_init 287 = .ok (.aload_n 0, 1) := by decide +kernel
theorem dX12_init_288 : decode cX12_init 288 = .ok (.bipush 40, 2) := by decide +kernel
theorem dX12_init_290 : decode cX12_init 290 = .ok (.newarray .int, 2) := by decide +kernel
theorem dX12_init_292 : decode cX12_init 292 = .ok (.putfield 118, 3) := by decide +kernel
theorem dX12_init_295 : decode cX12_init 295 = .ok (.aload_n 0, 1) := by decide +kernel
theorem dX12_init_296 : decode cX12_init 296 = .ok (.bipush 40, 2) := by decide +kernel
theorem dX12_init_298 : decode cX12_init 298 = .ok (.newarray .int, 2) := by decide +kernel
theorem dX12_init_300 : decode cX12_init 300 = .ok (.putfield 121, 3) := by decide +kernel
theorem dX12_init_303 : decode cX12_init 303 = .ok (.aload_n 0, 1) := by decide +kernel
theorem dX12_init_304 : decode cX12_init 304 = .ok (.bipush 40, 2) := by decide +kernel
theorem dX12_init_306 : decode cX12_init 306 = .ok (.newarray .int, 2) := by decide +kernel
theorem dX12_init_308 : decode cX12_init 308 = .ok (.putfield 124, 3) := by decide +kernel
theorem dX12_init_311 : decode cX12_init 311 = .ok (.aload_n 0, 1) := by decide +kernel
theorem dX12_init_312 : decode cX12_init 312 = .ok (.bipush 40, 2) := by decide +kernel
theorem dX12_init_314 : decode cX12_init 314 = .ok (.newarray .int, 2) := by decide +kernel
theorem dX12_init_316 : decode cX12_init 316 = .ok (.putfield 127, 3) := by decide +kernel
theorem dX12_init_319 : decode cX12_init 319 = .ok (.aload_n 0, 1) := by decide +kernel
theorem dX12_init_320 : decode cX12_init 320 = .ok (.bipush 40, 2) := by decide +kernel
theorem dX12_init_322 : decode cX12_init 322 = .ok (.newarray .int, 2) := by decide +kernel
theorem dX12_init_324 : decode cX12_init 324 = .ok (.putfield 130, 3) := by decide +kernel
theorem dX12_init_327 : decode cX12_init 327 = .ok (.aload_n 0, 1) := by decide +kernel
theorem dX12_init_328 : decode cX12_init 328 = .ok (.bipush 10, 2) := by decide +kernel
theorem dX12_init_330 : decode cX12_init 330 = .ok (.newarray .int, 2) := by decide +kernel
theorem dX12_init_332 : decode cX12_init 332 = .ok (.putfield 133, 3) := by decide +kernel
theorem dX12_init_335 : decode cX12_init 335 = .ok (.iconst 0, 1) := by decide +kernel
theorem dX12_init_336 : decode cX12_init 336 = .ok (.istore_n 1, 1) := by decide +kernel
theorem dX12_init_337 : decode cX12_init 337 = .ok (.iload_n 1, 1) := by decide +kernel
theorem dX12_init_338 : decode cX12_init 338 = .ok (.bipush 40, 2) := by decide +kernel
theorem dX12_init_340 : decode cX12_init 340 = .ok (.if_icmp .ge 30, 3) := by decide +kernel
theorem dX12_init_343 : decode cX12_init 343 = .ok (.aload_n 0, 1) := by decide +kernel
theorem dX12_init_344 : decode cX12_init 344 = .ok (.getfield 38, 3) := by decide +kernel
theorem dX12_init_347 : decode cX12_init 347 = .ok (.iload_n 1, 1) := by decide +kernel
theorem dX12_init_348 : decode cX12_init 348 = .ok (.iconst (-1), 1) := by decide +kernel
theorem dX12_init_349 : decode cX12_init 349 = .ok (.iastore, 1) := by decide +kernel
theorem dX12_init_350 : decode cX12_init 350 = .ok (.aload_n 0, 1) := by decide +kernel
theorem dX12_init_351 : decode cX12_init 351 = .ok (.getfield 109, 3) := by decide +kernel
theorem dX12_init_354 : decode cX12_init 354 = .ok (.iload_n 1, 1) := by decide +kernel
theorem dX12_init_355 : decode cX12_init 355 = .ok (.iconst (-1), 1) := by decide +kernel
theorem dX12_init_356 : decode cX12_init 356 = .ok (.iastore, 1) := by decide +kernel
theorem dX12_init_357 : decode cX12_init 357 = .ok (.aload_n 0, 1) := by decide +kernel
theorem dX12_init_358 : decode cX12_init 358 = .ok (.getfield 130, 3) := by decide +kernel
theorem dX12_init_361 : decode cX12_init 361 = .ok (.iload_n 1, 1) := by decide +kernel
theorem dX12_init_362 : decode cX12_init 362 = .ok (.iconst (-1), 1) := by decide +kernel
theorem dX12_init_363 : decode cX12_init 363 = .ok (.iastore, 1) := by decide +kernel
theorem dX12_init_364 : decode cX12_init 364 = .ok (.iinc 1 1, 3) := by decide +kernel
theorem dX12_init_367 : decode cX12_init 367 = .ok (.goto (-30), 3) := by decide +kernel
theorem dX12_init_370 : decode cX12_init 370 = .ok (.return_, 1) := by decide +kernel
theorem dX12_within_0 : decode cX12_within 0 = .ok (.iload_n 0, 1) := by decide +kernel
theorem dX12_within_1 : decode cX12_within 1 = .ok (.iload_n 1, 1) := by decide +kernel
theorem dX12_within_2 : decode cX12_within 2 = .ok (.if_icmp .lt 12, 3) := by decide +kernel
theorem dX12_within_5 : decode cX12_within 5 = .ok (.iload_n 0, 1) := by decide +kernel
theorem dX12_within_6 : decode cX12_within 6 = .ok (.iload_n 2, 1) := by decide +kernel
theorem dX12_within_7 : decode cX12_within 7 = .ok (.if_icmp .gt 7, 3) := by decide +kernel
theorem dX12_within_10 : decode cX12_within 10 = .ok (.iconst 1, 1) := by decide +kernel
theorem dX12_within_11 : decode cX12_within 11 = .ok (.goto 4, 3) := by decide +kernel
theorem dX12_within_14 : decode cX12_within 14 = .ok (.iconst 0, 1) := by decide +kernel
theorem dX12_within_15 : decode cX12_within 15 = .ok (.ireturn, 1) := by decide +kernel
theorem dX12_isPlace_0 : decode cX12_isPlace 0 = .ok (.iload_n 1, 1) := by decide +kernel
theorem dX12_isPlace_1 : decode cX12_isPlace 1 = .ok (.ifCond .lt 15, 3) := by decide +kernel
theorem dX12_isPlace_4 : decode cX12_isPlace 4 = .ok (.iload_n 1, 1) := by decide +kernel
theorem dX12_isPlace_5 : decode cX12_isPlace 5 = .ok (.aload_n 0, 1) := by decide +kernel
theorem dX12_isPlace_6 : decode cX12_isPlace 6 = .ok (.getfield 136, 3) := by decide +kernel
theorem dX12_isPlace_9 : decode cX12_isPlace 9 = .ok (.if_icmp .ge 7, 3) := by decide +kernel
theorem dX12_isPlace_12 : decode cX12_isPlace 12 = .ok (.iconst 1, 1) := by decide +kernel
theorem dX12_isPlace_13 : decode cX12_isPlace 13 = .ok (.goto 4, 3) := by decide +kernel
theorem dX12_isPlace_16 : decode cX12_isPlace 16 = .ok (.iconst 0, 1) := by decide +kernel
theorem dX12_isPlace_17 : decode cX12_isPlace 17 = .ok (.ireturn, 1) := by decide +kernel
theorem dX12_isShop_0 : decode cX12_isShop 0 = .ok (.iload_n 1, 1) := by decide +kernel
theorem dX12_isShop_1 : decode cX12_isShop 1 = .ok (.ifCond .lt 15, 3) := by decide +kernel
theorem dX12_isShop_4 : decode cX12_isShop 4 = .ok (.iload_n 1, 1) := by decide +kernel
theorem dX12_isShop_5 : decode cX12_isShop 5 = .ok (.aload_n 0, 1) := by decide +kernel
theorem dX12_isShop_6 : decode cX12_isShop 6 = .ok (.getfield 139, 3) := by decide +kernel
theorem dX12_isShop_9 : decode cX12_isShop 9 = .ok (.if_icmp .ge 7, 3) := by decide +kernel
theorem dX12_isShop_12 : decode cX12_isShop 12 = .ok (.iconst 1, 1) := by decide +kernel
theorem dX12_isShop_13 : decode cX12_isShop 13 = .ok (.goto 4, 3) := by decide +kernel
theorem dX12_isShop_16 : decode cX12_isShop 16 = .ok (.iconst 0, 1) := by decide +kernel
theorem dX12_isShop_17 : decode cX12_isShop 17 = .ok (.ireturn, 1) := by decide +kernel
theorem dX12_isOpen_0 : decode cX12_isOpen 0 = .ok (.aload_n 0, 1) := by decide +kernel
theorem dX12_isOpen_1 : decode cX12_isOpen 1 = .ok (.getfield 38, 3) := by decide +kernel
theorem dX12_isOpen_4 : decode cX12_isOpen 4 = .ok (.iload_n 1, 1) := by decide +kernel
theorem dX12_isOpen_5 : decode cX12_isOpen 5 = .ok (.iaload, 1) := by decide +kernel
theorem dX12_isOpen_6 : decode cX12_isOpen 6 = .ok (.ifCond .ge 7, 3) := by decide +kernel
theorem dX12_isOpen_9 : decode cX12_isOpen 9 = .ok (.iconst 1, 1) := by decide +kernel
theorem dX12_isOpen_10 : decode cX12_isOpen 10 = .ok (.goto 4, 3) := by decide +kernel
theorem dX12_isOpen_13 : decode cX12_isOpen 13 = .ok (.iconst 0, 1) := by decide +kernel
theorem dX12_isOpen_14 : decode cX12_isOpen 14 = .ok (.ireturn, 1) := by decide +kernel
theorem dX12_isDay_0 : decode cX12_isDay 0 = .ok (.iload_n 0, 1) := by decide +kernel
theorem dX12_isDay_1 : decode cX12_isDay 1 = .ok (.iconst 0, 1) := by decide +kernel
theorem dX12_isDay_2 : decode cX12_isDay 2 = .ok (.sipush 9999, 3) := by decide +kernel
theorem dX12_isDay_5 : decode cX12_isDay 5 = .ok (.invokestatic 142, 3) := by decide +kernel
theorem dX12_isDay_8 : decode cX12_isDay 8 = .ok (.ireturn, 1) := by decide +kernel
theorem dX12_isMonth_0 : decode cX12_isMonth 0 = .ok (.iload_n 0, 1) := by decide +kernel
theorem dX12_isMonth_1 : decode cX12_isMonth 1 = .ok (.iconst 0, 1) := by decide +kernel
theorem dX12_isMonth_2 : decode cX12_isMonth 2 = .ok (.sipush 332, 3) := by decide +kernel
theorem dX12_isMonth_5 : decode cX12_isMonth 5 = .ok (.invokestatic 142, 3) := by decide +kernel
theorem dX12_isMonth_8 : decode cX12_isMonth 8 = .ok (.ireturn, 1) := by decide +kernel
theorem dX12_place_0 : decode cX12_place 0 = .ok (.iload_n 1, 1) := by decide +kernel
theorem dX12_place_1 : decode cX12_place 1 = .ok (.iconst 0, 1) := by decide +kernel
theorem dX12_place_2 : decode cX12_place 2 = .ok (.sipush 999, 3) := by decide +kernel
theorem dX12_place_5 : decode cX12_place 5 = .ok (.invokestatic 142, 3) := by decide +kernel
theorem dX12_place_8 : decode cX12_place 8 = .ok (.ifCond .ne 5, 3) := by decide +kernel
theorem dX12_place_11 : decode cX12_place 11 = .ok (.iconst (-1), 1) := by decide +kernel
theorem dX12_place_12 : decode cX12_place 12 = .ok (.ireturn, 1) := by decide +kernel
theorem dX12_place_13 : decode cX12_place 13 = .ok (.aload_n 0, 1) := by decide +kernel
theorem dX12_place_14 : decode cX12_place 14 = .ok (.getfield 136, 3) := by decide +kernel
theorem dX12_place_17 : decode cX12_place 17 = .ok (.bipush 30, 2) := by decide +kernel
theorem dX12_place_19 : decode cX12_place 19 = .ok (.if_icmp .ne 6, 3) := by decide +kernel
theorem dX12_place_22 : decode cX12_place 22 = .ok (.bipush (-2), 2) := by decide +kernel
theorem dX12_place_24 : decode cX12_place 24 = .ok (.ireturn, 1) := by decide +kernel
theorem dX12_place_25 : decode cX12_place 25 = .ok (.aload_n 0, 1) := by decide +kernel
theorem dX12_place_26 : decode cX12_place 26 = .ok (.getfield 9, 3) := by decide +kernel
theorem dX12_place_29 : decode cX12_place 29 = .ok (.aload_n 0, 1) := by decide +kernel
theorem dX12_place_30 : decode cX12_place 30 = .ok (.getfield 136, 3) := by decide +kernel
theorem dX12_place_33 : decode cX12_place 33 = .ok (.iload_n 1, 1) := by decide +kernel
theorem dX12_place_34 : decode cX12_place 34 = .ok (.iastore, 1) := by decide +kernel
theorem dX12_place_35 : decode cX12_place 35 = .ok (.aload_n 0, 1) := by decide +kernel
theorem dX12_place_36 : decode cX12_place 36 = .ok (.dup, 1) := by decide +kernel
theorem dX12_place_37 : decode cX12_place 37 = .ok (.getfield 136, 3) := by decide +kernel
theorem dX12_place_40 : decode cX12_place 40 = .ok (.iconst 1, 1) := by decide +kernel
theorem dX12_place_41 : decode cX12_place 41 = .ok (.iadd, 1) := by decide +kernel
theorem dX12_place_42 : decode cX12_place 42 = .ok (.putfield 136, 3) := by decide +kernel
theorem dX12_place_45 : decode cX12_place 45 = .ok (.aload_n 0, 1) := by decide +kernel
theorem dX12_place_46 : decode cX12_place 46 = .ok (.iconst 0, 1) := by decide +kernel
theorem dX12_place_47 : decode cX12_place 47 = .ok (.putfield 146, 3) := by decide +kernel
theorem dX12_place_50 : decode cX12_place 50 = .ok (.aload_n 0, 1) := by decide +kernel
theorem dX12_place_51 : decode cX12_place 51 = .ok (.getfield 136, 3) := by decide +kernel
theorem dX12_place_54 : decode cX12_place 54 = .ok (.iconst 1, 1) := by decide +kernel
theorem dX12_place_55 : decode cX12_place 55 = .ok (.isub, 1) := by decide +kernel
theorem dX12_place_56 : decode cX12_place 56 = .ok (.ireturn, 1) := by decide +kernel
theorem dX12_street_0 : decode cX12_street 0 = .ok (.aload_n 0, 1) := by decide +kernel
theorem dX12_street_1 : decode cX12_street 1 = .ok (.iload_n 1, 1) := by decide +kernel
theorem dX12_street_2 : decode cX12_street 2 = .ok (.invokevirtual 150, 3) := by decide +kernel
theorem dX12_street_5 : decode cX12_street 5 = .ok (.ifCond .eq 26, 3) := by decide +kernel
theorem dX12_street_8 : decode cX12_street 8 = .ok (.aload_n 0, 1) := by decide +kernel
theorem dX12_street_9 : decode cX12_street 9 = .ok (.iload_n 2, 1) := by decide +kernel
theorem dX12_street_10 : decode cX12_street 10 = .ok (.invokevirtual 150, 3) := by decide +kernel
theorem dX12_street_13 : decode cX12_street 13 = .ok (.ifCond .eq 18, 3) := by decide +kernel
theorem dX12_street_16 : decode cX12_street 16 = .ok (.iload_n 1, 1) := by decide +kernel
theorem dX12_street_17 : decode cX12_street 17 = .ok (.iload_n 2, 1) := by decide +kernel
theorem dX12_street_18 : decode cX12_street 18 = .ok (.if_icmp .eq 13, 3) := by decide +kernel
theorem dX12_street_21 : decode cX12_street 21 = .ok (.iload_n 3, 1) := by decide +kernel
theorem dX12_street_22 : decode cX12_street 22 = .ok (.iconst 1, 1) := by decide +kernel
theorem dX12_street_23 : decode cX12_street 23 = .ok (.bipush 99, 2) := by decide +kernel
theorem dX12_street_25 : decode cX12_street 25 = .ok (.invokestatic 142, 3) := by decide +kernel
theorem dX12_street_28 : decode cX12_street 28 = .ok (.ifCond .ne 5, 3) := by decide +kernel
theorem dX12_street_31 : decode cX12_street 31 = .ok (.iconst (-1), 1) := by decide +kernel
theorem dX12_street_32 : decode cX12_street 32 = .ok (.ireturn, 1) := by decide +kernel
theorem dX12_street_33 : decode cX12_street 33 = .ok (.aload_n 0, 1) := by decide +kernel
theorem dX12_street_34 : decode cX12_street 34 = .ok (.getfield 13, 3) := by decide +kernel
theorem dX12_street_37 : decode cX12_street 37 = .ok (.bipush 30, 2) := by decide +kernel
theorem dX12_street_39 : decode cX12_street 39 = .ok (.iload_n 1, 1) := by decide +kernel
theorem dX12_street_40 : decode cX12_street 40 = .ok (.imul, 1) := by decide +kernel
theorem dX12_street_41 : decode cX12_street 41 = .ok (.iload_n 2, 1) := by decide +kernel
theorem dX12_street_42 : decode cX12_street 42 = .ok (.iadd, 1) := by decide +kernel
theorem dX12_street_43 : decode cX12_street 43 = .ok (.iaload, 1) := by decide +kernel
theorem dX12_street_44 : decode cX12_street 44 = .ok (.istore 4, 2) := by decide +kernel
theorem dX12_street_46 : decode cX12_street 46 = .ok (.iload 4, 2) := by decide +kernel
theorem dX12_street_48 : decode cX12_street 48 = .ok (.ifCond .le 14, 3) := by decide +kernel
theorem dX12_street_51 : decode cX12_street 51 = .ok (.iload 4, 2) := by decide +kernel
theorem dX12_street_53 : decode cX12_street 53 = .ok (.iload_n 3, 1) := by decide +kernel
theorem dX12_street_54 : decode cX12_street 54 = .ok (.if_icmp .ge 8, 3) := by decide +kernel
theorem dX12_street_57 : decode cX12_street 57 = .ok (.iload 4, 2) := by decide +kernel
theorem dX12_street_59 : decode cX12_street 59 = .ok (.goto 4, 3) := by decide +kernel
theorem dX12_street_62 : decode cX12_street 62 = .ok (.iload_n 3, 1) := by decide +kernel
theorem dX12_street_63 : decode cX12_street 63 = .ok (.istore 5, 2) := by decide +kernel
theorem dX12_street_65 : decode cX12_street 65 = .ok (.aload_n 0, 1) := by decide +kernel
theorem dX12_street_66 : decode cX12_street 66 = .ok (.getfield 13, 3) := by decide +kernel
theorem dX12_street_69 : decode cX12_street 69 = .ok (.bipush 30, 2) := by decide +kernel
theorem dX12_street_71 : decode cX12_street 71 = .ok (.iload_n 1, 1) := by decide +kernel
theorem dX12_street_72 : decode cX12_street 72 = .ok (.imul, 1) := by decide +kernel
theorem dX12_street_73 : decode cX12_street 73 = .ok (.iload_n 2, 1) := by decide +kernel
theorem dX12_street_74 : decode cX12_street 74 = .ok (.iadd, 1) := by decide +kernel
theorem dX12_street_75 : decode cX12_street 75 = .ok (.iload 5, 2) := by decide +kernel
theorem dX12_street_77 : decode cX12_street 77 = .ok (.iastore, 1) := by decide +kernel
theorem dX12_street_78 : decode cX12_street 78 = .ok (.aload_n 0, 1) := by decide +kernel
theorem dX12_street_79 : decode cX12_street 79 = .ok (.getfield 13, 3) := by decide +kernel
theorem dX12_street_82 : decode cX12_street 82 = .ok (.bipush 30, 2) := by decide +kernel
theorem dX12_street_84 : decode cX12_street 84 = .ok (.iload_n 2, 1) := by decide +kernel
theorem dX12_street_85 : decode cX12_street 85 = .ok (.imul, 1) := by decide +kernel
theorem dX12_street_86 : decode cX12_street 86 = .ok (.iload_n 1, 1) := by decide +kernel
theorem dX12_street_87 : decode cX12_street 87 = .ok (.iadd, 1) := by decide +kernel
theorem dX12_street_88 : decode cX12_street 88 = .ok (.iload 5, 2) := by decide +kernel
theorem dX12_street_90 : decode cX12_street 90 = .ok (.iastore, 1) := by decide +kernel
theorem dX12_street_91 : decode cX12_street 91 = .ok (.aload_n 0, 1) := by decide +kernel
theorem dX12_street_92 : decode cX12_street 92 = .ok (.iconst 0, 1) := by decide +kernel
theorem dX12_street_93 : decode cX12_street 93 = .ok (.putfield 146, 3) := by decide +kernel
theorem dX12_street_96 : decode cX12_street 96 = .ok (.iload 5, 2) := by decide +kernel
theorem dX12_street_98 : decode cX12_street 98 = .ok (.ireturn, 1) := by decide +kernel
theorem dX12_findWays_0 : decode cX12_findWays 0 = .ok (.aload_n 0, 1) := by decide +kernel
theorem dX12_findWays_1 : decode cX12_findWays 1 = .ok (.getfield 146, 3) := by decide +kernel
theorem dX12_findWays_4 : decode cX12_findWays 4 = .ok (.ifCond .eq 4, 3) := by decide +kernel
theorem dX12_findWays_7 : decode cX12_findWays 7 = .ok (.return_, 1) := by decide +kernel
theorem dX12_findWays_8 : decode cX12_findWays 8 = .ok (.iconst 0, 1) := by decide +kernel
theorem dX12_findWays_9 : decode cX12_findWays 9 = .ok (.istore_n 1, 1) := by decide +kernel
theorem dX12_findWays_10 : decode cX12_findWays 10 = .ok (.iload_n 1, 1) := by decide +kernel
theorem dX12_findWays_11 : decode cX12_findWays 11 = .ok (.aload_n 0, 1) := by decide +kernel
theorem dX12_findWays_12 : decode cX12_findWays 12 = .ok (.getfield 136, 3) := by decide +kernel
theorem dX12_findWays_15 : decode cX12_findWays 15 = .ok (.if_icmp .ge 67, 3) := by decide +kernel
theorem dX12_findWays_18 : decode cX12_findWays 18 = .ok (.iconst 0, 1) := by decide +kernel
theorem dX12_findWays_19 : decode cX12_findWays 19 = .ok (.istore_n 2, 1) := by decide +kernel
theorem dX12_findWays_20 : decode cX12_findWays 20 = .ok (.iload_n 2, 1) := by decide +kernel
theorem dX12_findWays_21 : decode cX12_findWays 21 = .ok (.aload_n 0, 1) := by decide +kernel
theorem dX12_findWays_22 : decode cX12_findWays 22 = .ok (.getfield 136, 3) := by decide +kernel
theorem dX12_findWays_25 : decode cX12_findWays 25 = .ok (.if_icmp .ge 51, 3) := by decide +kernel
theorem dX12_findWays_28 : decode cX12_findWays 28 = .ok (.aload_n 0, 1) := by decide +kernel
theorem dX12_findWays_29 : decode cX12_findWays 29 = .ok (.getfield 13, 3) := by decide +kernel
theorem dX12_findWays_32 : decode cX12_findWays 32 = .ok (.bipush 30, 2) := by decide +kernel
theorem dX12_findWays_34 : decode cX12_findWays 34 = .ok (.iload_n 1, 1) := by decide +kernel
theorem dX12_findWays_35 : decode cX12_findWays 35 = .ok (.imul, 1) := by decide +kernel
theorem dX12_findWays_36 : decode cX12_findWays 36 = .ok (.iload_n 2, 1) := by decide +kernel
theorem dX12_findWays_37 : decode cX12_findWays 37 = .ok (.iadd, 1) := by decide +kernel
theorem dX12_findWays_38 : decode cX12_findWays 38 = .ok (.iaload, 1) := by decide +kernel
theorem dX12_findWays_39 : decode cX12_findWays 39 = .ok (.istore_n 3, 1) := by decide +kernel
theorem dX12_findWays_40 : decode cX12_findWays 40 = .ok (.aload_n 0, 1) := by decide +kernel
theorem dX12_findWays_41 : decode cX12_findWays 41 = .ok (.getfield 16, 3) := by decide +kernel
theorem dX12_findWays_44 : decode cX12_findWays 44 = .ok (.bipush 30, 2) := by decide +kernel
theorem dX12_findWays_46 : decode cX12_findWays 46 = .ok (.iload_n 1, 1) := by decide +kernel
theorem dX12_findWays_47 : decode cX12_findWays 47 = .ok (.imul, 1) := by decide +kernel
theorem dX12_findWays_48 : decode cX12_findWays 48 = .ok (.iload_n 2, 1) := by decide +kernel
theorem dX12_findWays_49 : decode cX12_findWays 49 = .ok (.iadd, 1) := by decide +kernel
theorem dX12_findWays_50 : decode cX12_findWays 50 = .ok (.iload_n 1, 1) := by decide +kernel
theorem dX12_findWays_51 : decode cX12_findWays 51 = .ok (.iload_n 2, 1) := by decide +kernel
theorem dX12_findWays_52 : decode cX12_findWays 52 = .ok (.if_icmp .ne 7, 3) := by decide +kernel
theorem dX12_findWays_55 : decode cX12_findWays 55 = .ok (.iconst 0, 1) := by decide +kernel
theorem dX12_findWays_56 : decode cX12_findWays 56 = .ok (.goto 13, 3) := by decide +kernel
theorem dX12_findWays_59 : decode cX12_findWays 59 = .ok (.iload_n 3, 1) := by decide +kernel
theorem dX12_findWays_60 : decode cX12_findWays 60 = .ok (.ifCond .le 7, 3) := by decide +kernel
theorem dX12_findWays_63 : decode cX12_findWays 63 = .ok (.iload_n 3, 1) := by decide +kernel
theorem dX12_findWays_64 : decode cX12_findWays 64 = .ok (.goto 5, 3) := by decide +kernel
theorem dX12_findWays_67 : decode cX12_findWays 67 = .ok (.ldc 154, 2) := by decide +kernel
theorem dX12_findWays_69 : decode cX12_findWays 69 = .ok (.iastore, 1) := by decide +kernel
theorem dX12_findWays_70 : decode cX12_findWays 70 = .ok (.iinc 2 1, 3) := by decide +kernel
theorem dX12_findWays_73 : decode cX12_findWays 73 = .ok (.goto (-53), 3) := by decide +kernel
theorem dX12_findWays_76 : decode cX12_findWays 76 = .ok (.iinc 1 1, 3) := by decide +kernel
theorem dX12_findWays_79 : decode cX12_findWays 79 = .ok (.goto (-69), 3) := by decide +kernel
theorem dX12_findWays_82 : decode cX12_findWays 82 = .ok (.iconst 0, 1) := by decide +kernel
theorem dX12_findWays_83 : decode cX12_findWays 83 = .ok (.istore_n 1, 1) := by decide +kernel
theorem dX12_findWays_84 : decode cX12_findWays 84 = .ok (.iload_n 1, 1) := by decide +kernel
theorem dX12_findWays_85 : decode cX12_findWays 85 = .ok (.aload_n 0, 1) := by decide +kernel
theorem dX12_findWays_86 : decode cX12_findWays 86 = .ok (.getfield 136, 3) := by decide +kernel
theorem dX12_findWays_89 : decode cX12_findWays 89 = .ok (.if_icmp .ge 95, 3) := by decide +kernel
theorem dX12_findWays_92 : decode cX12_findWays 92 = .ok (.iconst 0, 1) := by decide +kernel
theorem dX12_findWays_93 : decode cX12_findWays 93 = .ok (.istore_n 2, 1) := by decide +kernel
theorem dX12_findWays_94 : decode cX12_findWays 94 = .ok (.iload_n 2, 1) := by decide +kernel
theorem dX12_findWays_95 : decode cX12_findWays 95 = .ok (.aload_n 0, 1) := by decide +kernel
theorem dX12_findWays_96 : decode cX12_findWays 96 = .ok (.getfield 136, 3) := by decide +kernel
theorem dX12_findWays_99 : decode cX12_findWays 99 = .ok (.if_icmp .ge 79, 3) := by decide +kernel
theorem dX12_findWays_102 : decode cX12_findWays 102 = .ok (.iconst 0, 1) := by decide +kernel
theorem dX12_findWays_103 : decode cX12_findWays 103 = .ok (.istore_n 3, 1) := by decide +kernel
theorem dX12_findWays_104 : decode cX12_findWays 104 = .ok (.iload_n 3, 1) := by decide +kernel
theorem dX12_findWays_105 : decode cX12_findWays 105 = .ok (.aload_n 0, 1) := by decide +kernel
theorem dX12_findWays_106 : decode cX12_findWays 106 = .ok (.getfield 136, 3) := by decide +kernel
theorem dX12_findWays_109 : decode cX12_findWays 109 = .ok (.if_icmp .ge 63, 3) := by decide +kernel
theorem dX12_findWays_112 : decode cX12_findWays 112 = .ok (.aload_n 0, 1) := by decide +kernel
theorem dX12_findWays_113 : decode cX12_findWays 113 = .ok (.getfield 16, 3) := by decide +kernel
theorem dX12_findWays_116 : decode cX12_findWays 116 = .ok (.bipush 30, 2) := by decide +kernel
theorem dX12_findWays_118 : decode cX12_findWays 118 = .ok (.iload_n 2, 1) := by decide +kernel
theorem dX12_findWays_119 : decode cX12_findWays 119 = .ok (.imul, 1) := by decide +kernel
theorem dX12_findWays_120 : decode cX12_findWays 120 = .ok (.iload_n 1, 1) := by decide +kernel
theorem dX12_findWays_121 : decode cX12_findWays 121 = .ok (.iadd, 1) := by decide +kernel
theorem dX12_findWays_122 : decode cX12_findWays 122 = .ok (.iaload, 1) := by decide +kernel
theorem dX12_findWays_123 : decode cX12_findWays 123 = .ok (.aload_n 0, 1) := by decide +kernel
theorem dX12_findWays_124 : decode cX12_findWays 124 = .ok (.getfield 16, 3) := by decide +kernel
theorem dX12_findWays_127 : decode cX12_findWays 127 = .ok (.bipush 30, 2) := by decide +kernel
theorem dX12_findWays_129 : decode cX12_findWays 129 = .ok (.iload_n 1, 1) := by decide +kernel
theorem dX12_findWays_130 : decode cX12_findWays 130 = .ok (.imul, 1) := by decide +kernel
theorem dX12_findWays_131 : decode cX12_findWays 131 = .ok (.iload_n 3, 1) := by decide +kernel
theorem dX12_findWays_132 : decode cX12_findWays 132 = .ok (.iadd, 1) := by decide +kernel
theorem dX12_findWays_133 : decode cX12_findWays 133 = .ok (.iaload, 1) := by decide +kernel
theorem dX12_findWays_134 : decode cX12_findWays 134 = .ok (.iadd, 1) := by decide +kernel
theorem dX12_findWays_135 : decode cX12_findWays 135 = .ok (.istore 4, 2) := by decide +kernel
theorem dX12_findWays_137 : decode cX12_findWays 137 = .ok (.iload 4, 2) := by decide +kernel
theorem dX12_findWays_139 : decode cX12_findWays 139 = .ok (.aload_n 0, 1) := by decide +kernel
theorem dX12_findWays_140 : decode cX12_findWays 140 = .ok (.getfield 16, 3) := by decide +kernel
theorem dX12_findWays_143 : decode cX12_findWays 143 = .ok (.bipush 30, 2) := by decide +kernel
theorem dX12_findWays_145 : decode cX12_findWays 145 = .ok (.iload_n 2, 1) := by decide +kernel
theorem dX12_findWays_146 : decode cX12_findWays 146 = .ok (.imul, 1) := by decide +kernel
theorem dX12_findWays_147 : decode cX12_findWays 147 = .ok (.iload_n 3, 1) := by decide +kernel
theorem dX12_findWays_148 : decode cX12_findWays 148 = .ok (.iadd, 1) := by decide +kernel
theorem dX12_findWays_149 : decode cX12_findWays 149 = .ok (.iaload, 1) := by decide +kernel
theorem dX12_findWays_150 : decode cX12_findWays 150 = .ok (.if_icmp .ge 16, 3) := by decide +kernel
theorem dX12_findWays_153 : decode cX12_findWays 153 = .ok (.aload_n 0, 1) := by decide +kernel
theorem dX12_findWays_154 : decode cX12_findWays 154 = .ok (.getfield 16, 3) := by decide +kernel
theorem dX12_findWays_157 : decode cX12_findWays 157 = .ok (.bipush 30, 2) := by decide +kernel
theorem dX12_findWays_159 : decode cX12_findWays 159 = .ok (.iload_n 2, 1) := by decide +kernel
theorem dX12_findWays_160 : decode cX12_findWays 160 = .ok (.imul, 1) := by decide +kernel
theorem dX12_findWays_161 : decode cX12_findWays 161 = .ok (.iload_n 3, 1) := by decide +kernel
theorem dX12_findWays_162 : decode cX12_findWays 162 = .ok (.iadd, 1) := by decide +kernel
theorem dX12_findWays_163 : decode cX12_findWays 163 = .ok (.iload 4, 2) := by decide +kernel
theorem dX12_findWays_165 : decode cX12_findWays 165 = .ok (.iastore, 1) := by decide +kernel
theorem dX12_findWays_166 : decode cX12_findWays 166 = .ok (.iinc 3 1, 3) := by decide +kernel
theorem dX12_findWays_169 : decode cX12_findWays 169 = .ok (.goto (-65), 3) := by decide +kernel
theorem dX12_findWays_172 : decode cX12_findWays 172 = .ok (.iinc 2 1, 3) := by decide +kernel
theorem dX12_findWays_175 : decode cX12_findWays 175 = .ok (.goto (-81), 3) := by decide +kernel
theorem dX12_findWays_178 : decode cX12_findWays 178 = .ok (.iinc 1 1, 3) := by decide +kernel
theorem dX12_findWays_181 : decode cX12_findWays 181 = .ok (.goto (-97), 3) := by decide +kernel
theorem dX12_findWays_184 : decode cX12_findWays 184 = .ok (.aload_n 0, 1) := by decide +kernel
theorem dX12_findWays_185 : decode cX12_findWays 185 = .ok (.iconst 1, 1) := by decide +kernel
theorem dX12_findWays_186 : decode cX12_findWays 186 = .ok (.putfield 146, 3) := by decide +kernel
theorem dX12_findWays_189 : decode cX12_findWays 189 = .ok (.return_, 1) := by decide +kernel
theorem dX12_wayOf_0 : decode cX12_wayOf 0 = .ok (.aload_n 0, 1) := by decide +kernel
theorem dX12_wayOf_1 : decode cX12_wayOf 1 = .ok (.invokevirtual 155, 3) := by decide +kernel
theorem dX12_wayOf_4 : decode cX12_wayOf 4 = .ok (.aload_n 0, 1) := by decide +kernel
theorem dX12_wayOf_5 : decode cX12_wayOf 5 = .ok (.getfield 16, 3) := by decide +kernel
theorem dX12_wayOf_8 : decode cX12_wayOf 8 = .ok (.bipush 30, 2) := by decide +kernel
theorem dX12_wayOf_10 : decode cX12_wayOf 10 = .ok (.iload_n 1, 1) := by decide +kernel
theorem dX12_wayOf_11 : decode cX12_wayOf 11 = .ok (.imul, 1) := by decide +kernel
theorem dX12_wayOf_12 : decode cX12_wayOf 12 = .ok (.iload_n 2, 1) := by decide +kernel
theorem dX12_wayOf_13 : decode cX12_wayOf 13 = .ok (.iadd, 1) := by decide +kernel
theorem dX12_wayOf_14 : decode cX12_wayOf 14 = .ok (.iaload, 1) := by decide +kernel
theorem dX12_wayOf_15 : decode cX12_wayOf 15 = .ok (.ireturn, 1) := by decide +kernel
theorem dX12_way_0 : decode cX12_way 0 = .ok (.aload_n 0, 1) := by decide +kernel
theorem dX12_way_1 : decode cX12_way 1 = .ok (.iload_n 1, 1) := by decide +kernel
theorem dX12_way_2 : decode cX12_way 2 = .ok (.invokevirtual 150, 3) := by decide +kernel
theorem dX12_way_5 : decode cX12_way 5 = .ok (.ifCond .eq 11, 3) := by decide +kernel
theorem dX12_way_8 : decode cX12_way 8 = .ok (.aload_n 0, 1) := by decide +kernel
theorem dX12_way_9 : decode cX12_way 9 = .ok (.iload_n 2, 1) := by decide +kernel
theorem dX12_way_10 : decode cX12_way 10 = .ok (.invokevirtual 150, 3) := by decide +kernel
theorem dX12_way_13 : decode cX12_way 13 = .ok (.ifCond .ne 5, 3) := by decide +kernel
theorem dX12_way_16 : decode cX12_way 16 = .ok (.iconst (-1), 1) := by decide +kernel
theorem dX12_way_17 : decode cX12_way 17 = .ok (.ireturn, 1) := by decide +kernel
theorem dX12_way_18 : decode cX12_way 18 = .ok (.aload_n 0, 1) := by decide +kernel
theorem dX12_way_19 : decode cX12_way 19 = .ok (.iload_n 1, 1) := by decide +kernel
theorem dX12_way_20 : decode cX12_way 20 = .ok (.iload_n 2, 1) := by decide +kernel
theorem dX12_way_21 : decode cX12_way 21 = .ok (.invokevirtual 158, 3) := by decide +kernel
theorem dX12_way_24 : decode cX12_way 24 = .ok (.istore_n 3, 1) := by decide +kernel
theorem dX12_way_25 : decode cX12_way 25 = .ok (.iload_n 3, 1) := by decide +kernel
theorem dX12_way_26 : decode cX12_way 26 = .ok (.ldc 154, 2) := by decide +kernel
theorem dX12_way_28 : decode cX12_way 28 = .ok (.if_icmp .ge 7, 3) := by decide +kernel
theorem dX12_way_31 : decode cX12_way 31 = .ok (.iload_n 3, 1) := by decide +kernel
theorem dX12_way_32 : decode cX12_way 32 = .ok (.goto 5, 3) := by decide +kernel
theorem dX12_way_35 : decode cX12_way 35 = .ok (.bipush (-4), 2) := by decide +kernel
theorem dX12_way_37 : decode cX12_way 37 = .ok (.ireturn, 1) := by decide +kernel
theorem dX12_days_0 : decode cX12_days 0 = .ok (.iload_n 1, 1) := by decide +kernel
theorem dX12_days_1 : decode cX12_days 1 = .ok (.iconst 1, 1) := by decide +kernel
theorem dX12_days_2 : decode cX12_days 2 = .ok (.sipush 360, 3) := by decide +kernel
theorem dX12_days_5 : decode cX12_days 5 = .ok (.invokestatic 142, 3) := by decide +kernel
theorem dX12_days_8 : decode cX12_days 8 = .ok (.ifCond .eq 15, 3) := by decide +kernel
theorem dX12_days_11 : decode cX12_days 11 = .ok (.aload_n 0, 1) := by decide +kernel
theorem dX12_days_12 : decode cX12_days 12 = .ok (.getfield 162, 3) := by decide +kernel
theorem dX12_days_15 : decode cX12_days 15 = .ok (.iload_n 1, 1) := by decide +kernel
theorem dX12_days_16 : decode cX12_days 16 = .ok (.iadd, 1) := by decide +kernel
theorem dX12_days_17 : decode cX12_days 17 = .ok (.sipush 9999, 3) := by decide +kernel
theorem dX12_days_20 : decode cX12_days 20 = .ok (.if_icmp .le 5, 3) := by decide +kernel
theorem dX12_days_23 : decode cX12_days 23 = .ok (.iconst (-1), 1) := by decide +kernel
theorem dX12_days_24 : decode cX12_days 24 = .ok (.ireturn, 1) := by decide +kernel
theorem dX12_days_25 : decode cX12_days 25 = .ok (.iconst 0, 1) := by decide +kernel
theorem dX12_days_26 : decode cX12_days 26 = .ok (.istore_n 2, 1) := by decide +kernel
theorem dX12_days_27 : decode cX12_days 27 = .ok (.iload_n 2, 1) := by decide +kernel
theorem dX12_days_28 : decode cX12_days 28 = .ok (.iload_n 1, 1) := by decide +kernel
theorem dX12_days_29 : decode cX12_days 29 = .ok (.if_icmp .ge 80, 3) := by decide +kernel
theorem dX12_days_32 : decode cX12_days 32 = .ok (.aload_n 0, 1) := by decide +kernel
theorem dX12_days_33 : decode cX12_days 33 = .ok (.dup, 1) := by decide +kernel
theorem dX12_days_34 : decode cX12_days 34 = .ok (.getfield 162, 3) := by decide +kernel
theorem dX12_days_37 : decode cX12_days 37 = .ok (.iconst 1, 1) := by decide +kernel
theorem dX12_days_38 : decode cX12_days 38 = .ok (.iadd, 1) := by decide +kernel
theorem dX12_days_39 : decode cX12_days 39 = .ok (.putfield 162, 3) := by decide +kernel
theorem dX12_days_42 : decode cX12_days 42 = .ok (.iconst 0, 1) := by decide +kernel
theorem dX12_days_43 : decode cX12_days 43 = .ok (.istore_n 3, 1) := by decide +kernel
theorem dX12_days_44 : decode cX12_days 44 = .ok (.iload_n 3, 1) := by decide +kernel
theorem dX12_days_45 : decode cX12_days 45 = .ok (.aload_n 0, 1) := by decide +kernel
theorem dX12_days_46 : decode cX12_days 46 = .ok (.getfield 139, 3) := by decide +kernel
theorem dX12_days_49 : decode cX12_days 49 = .ok (.if_icmp .ge 54, 3) := by decide +kernel
theorem dX12_days_52 : decode cX12_days 52 = .ok (.aload_n 0, 1) := by decide +kernel
theorem dX12_days_53 : decode cX12_days 53 = .ok (.iload_n 3, 1) := by decide +kernel
theorem dX12_days_54 : decode cX12_days 54 = .ok (.invokevirtual 165, 3) := by decide +kernel
theorem dX12_days_57 : decode cX12_days 57 = .ok (.ifCond .eq 40, 3) := by decide +kernel
theorem dX12_days_60 : decode cX12_days 60 = .ok (.aload_n 0, 1) := by decide +kernel
theorem dX12_days_61 : decode cX12_days 61 = .ok (.getfield 162, 3) := by decide +kernel
theorem dX12_days_64 : decode cX12_days 64 = .ok (.aload_n 0, 1) := by decide +kernel
theorem dX12_days_65 : decode cX12_days 65 = .ok (.getfield 112, 3) := by decide +kernel
theorem dX12_days_68 : decode cX12_days 68 = .ok (.iload_n 3, 1) := by decide +kernel
theorem dX12_days_69 : decode cX12_days 69 = .ok (.iaload, 1) := by decide +kernel
theorem dX12_days_70 : decode cX12_days 70 = .ok (.if_icmp .le 27, 3) := by decide +kernel
theorem dX12_days_73 : decode cX12_days 73 = .ok (.aload_n 0, 1) := by decide +kernel
theorem dX12_days_74 : decode cX12_days 74 = .ok (.iload_n 3, 1) := by decide +kernel
theorem dX12_days_75 : decode cX12_days 75 = .ok (.invokevirtual 168, 3) := by decide +kernel
theorem dX12_days_78 : decode cX12_days 78 = .ok (.ifCond .le 19, 3) := by decide +kernel
theorem dX12_days_81 : decode cX12_days 81 = .ok (.aload_n 0, 1) := by decide +kernel
theorem dX12_days_82 : decode cX12_days 82 = .ok (.iload_n 3, 1) := by decide +kernel
theorem dX12_days_83 : decode cX12_days 83 = .ok (.iconst 2, 1) := by decide +kernel
theorem dX12_days_84 : decode cX12_days 84 = .ok (.invokevirtual 172, 3) := by decide +kernel
theorem dX12_days_87 : decode cX12_days 87 = .ok (.aload_n 0, 1) := by decide +kernel
theorem dX12_days_88 : decode cX12_days 88 = .ok (.getfield 38, 3) := by decide +kernel
theorem dX12_days_91 : decode cX12_days 91 = .ok (.iload_n 3, 1) := by decide +kernel
theorem dX12_days_92 : decode cX12_days 92 = .ok (.aload_n 0, 1) := by decide +kernel
theorem dX12_days_93 : decode cX12_days 93 = .ok (.getfield 162, 3) := by decide +kernel
theorem dX12_days_96 : decode cX12_days 96 = .ok (.iastore, 1) := by decide +kernel
theorem dX12_days_97 : decode cX12_days 97 = .ok (.iinc 3 1, 3) := by decide +kernel
theorem dX12_days_100 : decode cX12_days 100 = .ok (.goto (-56), 3) := by decide +kernel
theorem dX12_days_103 : decode cX12_days 103 = .ok (.iinc 2 1, 3) := by decide +kernel
theorem dX12_days_106 : decode cX12_days 106 = .ok (.goto (-79), 3) := by decide +kernel
theorem dX12_days_109 : decode cX12_days 109 = .ok (.aload_n 0, 1) := by decide +kernel
theorem dX12_days_110 : decode cX12_days 110 = .ok (.getfield 162, 3) := by decide +kernel
theorem dX12_days_113 : decode cX12_days 113 = .ok (.ireturn, 1) := by decide +kernel
theorem dX12_rule_0 : decode cX12_rule 0 = .ok (.iload_n 1, 1) := by decide +kernel
theorem dX12_rule_1 : decode cX12_rule 1 = .ok (.iconst 0, 1) := by decide +kernel
theorem dX12_rule_2 : decode cX12_rule 2 = .ok (.iconst 1, 1) := by decide +kernel
theorem dX12_rule_3 : decode cX12_rule 3 = .ok (.invokestatic 142, 3) := by decide +kernel
theorem dX12_rule_6 : decode cX12_rule 6 = .ok (.ifCond .eq 21, 3) := by decide +kernel
theorem dX12_rule_9 : decode cX12_rule 9 = .ok (.iload_n 2, 1) := by decide +kernel
theorem dX12_rule_10 : decode cX12_rule 10 = .ok (.iload_n 1, 1) := by decide +kernel
theorem dX12_rule_11 : decode cX12_rule 11 = .ok (.ifCond .ne 7, 3) := by decide +kernel
theorem dX12_rule_14 : decode cX12_rule 14 = .ok (.iconst 1, 1) := by decide +kernel
theorem dX12_rule_15 : decode cX12_rule 15 = .ok (.goto 4, 3) := by decide +kernel
theorem dX12_rule_18 : decode cX12_rule 18 = .ok (.iconst 0, 1) := by decide +kernel
theorem dX12_rule_19 : decode cX12_rule 19 = .ok (.bipush 99, 2) := by decide +kernel
theorem dX12_rule_21 : decode cX12_rule 21 = .ok (.invokestatic 142, 3) := by decide +kernel
theorem dX12_rule_24 : decode cX12_rule 24 = .ok (.ifCond .ne 5, 3) := by decide +kernel
theorem dX12_rule_27 : decode cX12_rule 27 = .ok (.iconst (-1), 1) := by decide +kernel
theorem dX12_rule_28 : decode cX12_rule 28 = .ok (.ireturn, 1) := by decide +kernel
theorem dX12_rule_29 : decode cX12_rule 29 = .ok (.iload_n 1, 1) := by decide +kernel
theorem dX12_rule_30 : decode cX12_rule 30 = .ok (.ifCond .ne 10, 3) := by decide +kernel
theorem dX12_rule_33 : decode cX12_rule 33 = .ok (.aload_n 0, 1) := by decide +kernel
theorem dX12_rule_34 : decode cX12_rule 34 = .ok (.getfield 19, 3) := by decide +kernel
theorem dX12_rule_37 : decode cX12_rule 37 = .ok (.goto 7, 3) := by decide +kernel
theorem dX12_rule_40 : decode cX12_rule 40 = .ok (.aload_n 0, 1) := by decide +kernel
theorem dX12_rule_41 : decode cX12_rule 41 = .ok (.getfield 23, 3) := by decide +kernel
theorem dX12_rule_44 : decode cX12_rule 44 = .ok (.istore_n 3, 1) := by decide +kernel
theorem dX12_rule_45 : decode cX12_rule 45 = .ok (.iload_n 1, 1) := by decide +kernel
theorem dX12_rule_46 : decode cX12_rule 46 = .ok (.ifCond .ne 11, 3) := by decide +kernel
theorem dX12_rule_49 : decode cX12_rule 49 = .ok (.aload_n 0, 1) := by decide +kernel
theorem dX12_rule_50 : decode cX12_rule 50 = .ok (.iload_n 2, 1) := by decide +kernel
theorem dX12_rule_51 : decode cX12_rule 51 = .ok (.putfield 19, 3) := by decide +kernel
theorem dX12_rule_54 : decode cX12_rule 54 = .ok (.goto 8, 3) := by decide +kernel
theorem dX12_rule_57 : decode cX12_rule 57 = .ok (.aload_n 0, 1) := by decide +kernel
theorem dX12_rule_58 : decode cX12_rule 58 = .ok (.iload_n 2, 1) := by decide +kernel
theorem dX12_rule_59 : decode cX12_rule 59 = .ok (.putfield 23, 3) := by decide +kernel
theorem dX12_rule_62 : decode cX12_rule 62 = .ok (.iload_n 3, 1) := by decide +kernel
theorem dX12_rule_63 : decode cX12_rule 63 = .ok (.ireturn, 1) := by decide +kernel
theorem dX12_openAt_0 : decode cX12_openAt 0 = .ok (.iconst 0, 1) := by decide +kernel
theorem dX12_openAt_1 : decode cX12_openAt 1 = .ok (.istore_n 2, 1) := by decide +kernel
theorem dX12_openAt_2 : decode cX12_openAt 2 = .ok (.iload_n 2, 1) := by decide +kernel
theorem dX12_openAt_3 : decode cX12_openAt 3 = .ok (.aload_n 0, 1) := by decide +kernel
theorem dX12_openAt_4 : decode cX12_openAt 4 = .ok (.getfield 139, 3) := by decide +kernel
theorem dX12_openAt_7 : decode cX12_openAt 7 = .ok (.if_icmp .ge 29, 3) := by decide +kernel
theorem dX12_openAt_10 : decode cX12_openAt 10 = .ok (.aload_n 0, 1) := by decide +kernel
theorem dX12_openAt_11 : decode cX12_openAt 11 = .ok (.iload_n 2, 1) := by decide +kernel
theorem dX12_openAt_12 : decode cX12_openAt 12 = .ok (.invokevirtual 176, 3) := by decide +kernel
theorem dX12_openAt_15 : decode cX12_openAt 15 = .ok (.ifCond .eq 15, 3) := by decide +kernel
theorem dX12_openAt_18 : decode cX12_openAt 18 = .ok (.aload_n 0, 1) := by decide +kernel
theorem dX12_openAt_19 : decode cX12_openAt 19 = .ok (.getfield 26, 3) := by decide +kernel
theorem dX12_openAt_22 : decode cX12_openAt 22 = .ok (.iload_n 2, 1) := by decide +kernel
theorem dX12_openAt_23 : decode cX12_openAt 23 = .ok (.iaload, 1) := by decide +kernel
theorem dX12_openAt_24 : decode cX12_openAt 24 = .ok (.iload_n 1, 1) := by decide +kernel
theorem dX12_openAt_25 : decode cX12_openAt 25 = .ok (.if_icmp .ne 5, 3) := by decide +kernel
theorem dX12_openAt_28 : decode cX12_openAt 28 = .ok (.iload_n 2, 1) := by decide +kernel
theorem dX12_openAt_29 : decode cX12_openAt 29 = .ok (.ireturn, 1) := by decide +kernel
theorem dX12_openAt_30 : decode cX12_openAt 30 = .ok (.iinc 2 1, 3) := by decide +kernel
theorem dX12_openAt_33 : decode cX12_openAt 33 = .ok (.goto (-31), 3) := by decide +kernel
theorem dX12_openAt_36 : decode cX12_openAt 36 = .ok (.iconst (-1), 1) := by decide +kernel
theorem dX12_openAt_37 : decode cX12_openAt 37 = .ok (.ireturn, 1) := by decide +kernel
theorem dX12_landOf_0 : decode cX12_landOf 0 = .ok (.iconst (-1), 1) := by decide +kernel
theorem dX12_landOf_1 : decode cX12_landOf 1 = .ok (.istore_n 2, 1) := by decide +kernel
theorem dX12_landOf_2 : decode cX12_landOf 2 = .ok (.iconst 0, 1) := by decide +kernel
theorem dX12_landOf_3 : decode cX12_landOf 3 = .ok (.istore_n 3, 1) := by decide +kernel
theorem dX12_landOf_4 : decode cX12_landOf 4 = .ok (.iconst 0, 1) := by decide +kernel
theorem dX12_landOf_5 : decode cX12_landOf 5 = .ok (.istore 4, 2) := by decide +kernel
theorem dX12_landOf_7 : decode cX12_landOf 7 = .ok (.iload 4, 2) := by decide +kernel
theorem dX12_landOf_9 : decode cX12_landOf 9 = .ok (.aload_n 0, 1) := by decide +kernel
theorem dX12_landOf_10 : decode cX12_landOf 10 = .ok (.getfield 139, 3) := by decide +kernel
theorem dX12_landOf_13 : decode cX12_landOf 13 = .ok (.if_icmp .ge 82, 3) := by decide +kernel
theorem dX12_landOf_16 : decode cX12_landOf 16 = .ok (.aload_n 0, 1) := by decide +kernel
theorem dX12_landOf_17 : decode cX12_landOf 17 = .ok (.iload 4, 2) := by decide +kernel
theorem dX12_landOf_19 : decode cX12_landOf 19 = .ok (.invokevirtual 176, 3) := by decide +kernel
theorem dX12_landOf_22 : decode cX12_landOf 22 = .ok (.ifCond .eq 28, 3) := by decide +kernel
theorem dX12_landOf_25 : decode cX12_landOf 25 = .ok (.aload_n 0, 1) := by decide +kernel
theorem dX12_landOf_26 : decode cX12_landOf 26 = .ok (.getfield 41, 3) := by decide +kernel
theorem dX12_landOf_29 : decode cX12_landOf 29 = .ok (.iload 4, 2) := by decide +kernel
theorem dX12_landOf_31 : decode cX12_landOf 31 = .ok (.iaload, 1) := by decide +kernel
theorem dX12_landOf_32 : decode cX12_landOf 32 = .ok (.ifCond .le 18, 3) := by decide +kernel
theorem dX12_landOf_35 : decode cX12_landOf 35 = .ok (.aload_n 0, 1) := by decide +kernel
theorem dX12_landOf_36 : decode cX12_landOf 36 = .ok (.aload_n 0, 1) := by decide +kernel
theorem dX12_landOf_37 : decode cX12_landOf 37 = .ok (.getfield 26, 3) := by decide +kernel
theorem dX12_landOf_40 : decode cX12_landOf 40 = .ok (.iload 4, 2) := by decide +kernel
theorem dX12_landOf_42 : decode cX12_landOf 42 = .ok (.iaload, 1) := by decide +kernel
theorem dX12_landOf_43 : decode cX12_landOf 43 = .ok (.iload_n 1, 1) := by decide +kernel
theorem dX12_landOf_44 : decode cX12_landOf 44 = .ok (.invokevirtual 158, 3) := by decide +kernel
theorem dX12_landOf_47 : decode cX12_landOf 47 = .ok (.goto 5, 3) := by decide +kernel
theorem dX12_landOf_50 : decode cX12_landOf 50 = .ok (.ldc 154, 2) := by decide +kernel
theorem dX12_landOf_52 : decode cX12_landOf 52 = .ok (.istore 5, 2) := by decide +kernel
theorem dX12_landOf_54 : decode cX12_landOf 54 = .ok (.iload 5, 2) := by decide +kernel
theorem dX12_landOf_56 : decode cX12_landOf 56 = .ok (.ldc 154, 2) := by decide +kernel
theorem dX12_landOf_58 : decode cX12_landOf 58 = .ok (.if_icmp .ge 31, 3) := by decide +kernel
theorem dX12_landOf_61 : decode cX12_landOf 61 = .ok (.iload 5, 2) := by decide +kernel
theorem dX12_landOf_63 : decode cX12_landOf 63 = .ok (.aload_n 0, 1) := by decide +kernel
theorem dX12_landOf_64 : decode cX12_landOf 64 = .ok (.getfield 41, 3) := by decide +kernel
theorem dX12_landOf_67 : decode cX12_landOf 67 = .ok (.iload 4, 2) := by decide +kernel
theorem dX12_landOf_69 : decode cX12_landOf 69 = .ok (.iaload, 1) := by decide +kernel
theorem dX12_landOf_70 : decode cX12_landOf 70 = .ok (.if_icmp .gt 19, 3) := by decide +kernel
theorem dX12_landOf_73 : decode cX12_landOf 73 = .ok (.iload_n 2, 1) := by decide +kernel
theorem dX12_landOf_74 : decode cX12_landOf 74 = .ok (.ifCond .lt 9, 3) := by decide +kernel
theorem dX12_landOf_77 : decode cX12_landOf 77 = .ok (.iload 5, 2) := by decide +kernel
theorem dX12_landOf_79 : decode cX12_landOf 79 = .ok (.iload_n 3, 1) := by decide +kernel
theorem dX12_landOf_80 : decode cX12_landOf 80 = .ok (.if_icmp .ge 9, 3) := by decide +kernel
theorem dX12_landOf_83 : decode cX12_landOf 83 = .ok (.iload 4, 2) := by decide +kernel
theorem dX12_landOf_85 : decode cX12_landOf 85 = .ok (.istore_n 2, 1) := by decide +kernel
theorem dX12_landOf_86 : decode cX12_landOf 86 = .ok (.iload 5, 2) := by decide +kernel
theorem dX12_landOf_88 : decode cX12_landOf 88 = .ok (.istore_n 3, 1) := by decide +kernel
theorem dX12_landOf_89 : decode cX12_landOf 89 = .ok (.iinc 4 1, 3) := by decide +kernel
theorem dX12_landOf_92 : decode cX12_landOf 92 = .ok (.goto (-85), 3) := by decide +kernel
theorem dX12_landOf_95 : decode cX12_landOf 95 = .ok (.iload_n 2, 1) := by decide +kernel
theorem dX12_landOf_96 : decode cX12_landOf 96 = .ok (.ireturn, 1) := by decide +kernel
theorem dX12_isOthers_0 : decode cX12_isOthers 0 = .ok (.aload_n 0, 1) := by decide +kernel
theorem dX12_isOthers_1 : decode cX12_isOthers 1 = .ok (.iload_n 1, 1) := by decide +kernel
theorem dX12_isOthers_2 : decode cX12_isOthers 2 = .ok (.invokevirtual 179, 3) := by decide +kernel
theorem dX12_isOthers_5 : decode cX12_isOthers 5 = .ok (.istore_n 3, 1) := by decide +kernel
theorem dX12_isOthers_6 : decode cX12_isOthers 6 = .ok (.iload_n 3, 1) := by decide +kernel
theorem dX12_isOthers_7 : decode cX12_isOthers 7 = .ok (.ifCond .lt 17, 3) := by decide +kernel
theorem dX12_isOthers_10 : decode cX12_isOthers 10 = .ok (.aload_n 0, 1) := by decide +kernel
theorem dX12_isOthers_11 : decode cX12_isOthers 11 = .ok (.getfield 29, 3) := by decide +kernel
theorem dX12_isOthers_14 : decode cX12_isOthers 14 = .ok (.iload_n 3, 1) := by decide +kernel
theorem dX12_isOthers_15 : decode cX12_isOthers 15 = .ok (.iaload, 1) := by decide +kernel
theorem dX12_isOthers_16 : decode cX12_isOthers 16 = .ok (.iload_n 2, 1) := by decide +kernel
theorem dX12_isOthers_17 : decode cX12_isOthers 17 = .ok (.if_icmp .eq 7, 3) := by decide +kernel
theorem dX12_isOthers_20 : decode cX12_isOthers 20 = .ok (.iconst 1, 1) := by decide +kernel
theorem dX12_isOthers_21 : decode cX12_isOthers 21 = .ok (.goto 4, 3) := by decide +kernel
theorem dX12_isOthers_24 : decode cX12_isOthers 24 = .ok (.iconst 0, 1) := by decide +kernel
theorem dX12_isOthers_25 : decode cX12_isOthers 25 = .ok (.ireturn, 1) := by decide +kernel
theorem dX12_isWho_0 : decode cX12_isWho 0 = .ok (.iload_n 0, 1) := by decide +kernel
theorem dX12_isWho_1 : decode cX12_isWho 1 = .ok (.ifCond .lt 23, 3) := by decide +kernel
theorem dX12_isWho_4 : decode cX12_isWho 4 = .ok (.iload_n 0, 1) := by decide +kernel
theorem dX12_isWho_5 : decode cX12_isWho 5 = .ok (.bipush 100, 2) := by decide +kernel
theorem dX12_isWho_7 : decode cX12_isWho 7 = .ok (.idiv, 1) := by decide +kernel
theorem dX12_isWho_8 : decode cX12_isWho 8 = .ok (.bipush 15, 2) := by decide +kernel
theorem dX12_isWho_10 : decode cX12_isWho 10 = .ok (.if_icmp .ge 14, 3) := by decide +kernel
theorem dX12_isWho_13 : decode cX12_isWho 13 = .ok (.iload_n 0, 1) := by decide +kernel
theorem dX12_isWho_14 : decode cX12_isWho 14 = .ok (.bipush 100, 2) := by decide +kernel
theorem dX12_isWho_16 : decode cX12_isWho 16 = .ok (.irem, 1) := by decide +kernel
theorem dX12_isWho_17 : decode cX12_isWho 17 = .ok (.ifCond .le 7, 3) := by decide +kernel
theorem dX12_isWho_20 : decode cX12_isWho 20 = .ok (.iconst 1, 1) := by decide +kernel
theorem dX12_isWho_21 : decode cX12_isWho 21 = .ok (.goto 4, 3) := by decide +kernel
theorem dX12_isWho_24 : decode cX12_isWho 24 = .ok (.iconst 0, 1) := by decide +kernel
theorem dX12_isWho_25 : decode cX12_isWho 25 = .ok (.ireturn, 1) := by decide +kernel
theorem dX12_open_0 : decode cX12_open 0 = .ok (.aload_n 0, 1) := by decide +kernel
theorem dX12_open_1 : decode cX12_open 1 = .ok (.iload_n 1, 1) := by decide +kernel
theorem dX12_open_2 : decode cX12_open 2 = .ok (.invokevirtual 150, 3) := by decide +kernel
theorem dX12_open_5 : decode cX12_open 5 = .ok (.ifCond .eq 10, 3) := by decide +kernel
theorem dX12_open_8 : decode cX12_open 8 = .ok (.iload_n 2, 1) := by decide +kernel
theorem dX12_open_9 : decode cX12_open 9 = .ok (.invokestatic 182, 3) := by decide +kernel
theorem dX12_open_12 : decode cX12_open 12 = .ok (.ifCond .ne 5, 3) := by decide +kernel
theorem dX12_open_15 : decode cX12_open 15 = .ok (.iconst (-1), 1) := by decide +kernel
theorem dX12_open_16 : decode cX12_open 16 = .ok (.ireturn, 1) := by decide +kernel
theorem dX12_open_17 : decode cX12_open 17 = .ok (.aload_n 0, 1) := by decide +kernel
theorem dX12_open_18 : decode cX12_open 18 = .ok (.iload_n 1, 1) := by decide +kernel
theorem dX12_open_19 : decode cX12_open 19 = .ok (.invokevirtual 185, 3) := by decide +kernel
theorem dX12_open_22 : decode cX12_open 22 = .ok (.ifCond .ge 15, 3) := by decide +kernel
theorem dX12_open_25 : decode cX12_open 25 = .ok (.aload_n 0, 1) := by decide +kernel
theorem dX12_open_26 : decode cX12_open 26 = .ok (.iload_n 1, 1) := by decide +kernel
theorem dX12_open_27 : decode cX12_open 27 = .ok (.iload_n 2, 1) := by decide +kernel
theorem dX12_open_28 : decode cX12_open 28 = .ok (.bipush 100, 2) := by decide +kernel
theorem dX12_open_30 : decode cX12_open 30 = .ok (.idiv, 1) := by decide +kernel
theorem dX12_open_31 : decode cX12_open 31 = .ok (.invokevirtual 188, 3) := by decide +kernel
theorem dX12_open_34 : decode cX12_open 34 = .ok (.ifCond .eq 6, 3) := by decide +kernel
theorem dX12_open_37 : decode cX12_open 37 = .ok (.bipush (-3), 2) := by decide +kernel
theorem dX12_open_39 : decode cX12_open 39 = .ok (.ireturn, 1) := by decide +kernel
theorem dX12_open_40 : decode cX12_open 40 = .ok (.aload_n 0, 1) := by decide +kernel
theorem dX12_open_41 : decode cX12_open 41 = .ok (.getfield 139, 3) := by decide +kernel
theorem dX12_open_44 : decode cX12_open 44 = .ok (.bipush 40, 2) := by decide +kernel
theorem dX12_open_46 : decode cX12_open 46 = .ok (.if_icmp .ne 6, 3) := by decide +kernel
theorem dX12_open_49 : decode cX12_open 49 = .ok (.bipush (-2), 2) := by decide +kernel
theorem dX12_open_51 : decode cX12_open 51 = .ok (.ireturn, 1) := by decide +kernel
theorem dX12_open_52 : decode cX12_open 52 = .ok (.aload_n 0, 1) := by decide +kernel
theorem dX12_open_53 : decode cX12_open 53 = .ok (.getfield 26, 3) := by decide +kernel
theorem dX12_open_56 : decode cX12_open 56 = .ok (.aload_n 0, 1) := by decide +kernel
theorem dX12_open_57 : decode cX12_open 57 = .ok (.getfield 139, 3) := by decide +kernel
theorem dX12_open_60 : decode cX12_open 60 = .ok (.iload_n 1, 1) := by decide +kernel
theorem dX12_open_61 : decode cX12_open 61 = .ok (.iastore, 1) := by decide +kernel
theorem dX12_open_62 : decode cX12_open 62 = .ok (.aload_n 0, 1) := by decide +kernel
theorem dX12_open_63 : decode cX12_open 63 = .ok (.getfield 29, 3) := by decide +kernel
theorem dX12_open_66 : decode cX12_open 66 = .ok (.aload_n 0, 1) := by decide +kernel
theorem dX12_open_67 : decode cX12_open 67 = .ok (.getfield 139, 3) := by decide +kernel
theorem dX12_open_70 : decode cX12_open 70 = .ok (.iload_n 2, 1) := by decide +kernel
theorem dX12_open_71 : decode cX12_open 71 = .ok (.bipush 100, 2) := by decide +kernel
theorem dX12_open_73 : decode cX12_open 73 = .ok (.idiv, 1) := by decide +kernel
theorem dX12_open_74 : decode cX12_open 74 = .ok (.iastore, 1) := by decide +kernel
theorem dX12_open_75 : decode cX12_open 75 = .ok (.aload_n 0, 1) := by decide +kernel
theorem dX12_open_76 : decode cX12_open 76 = .ok (.getfield 32, 3) := by decide +kernel
theorem dX12_open_79 : decode cX12_open 79 = .ok (.aload_n 0, 1) := by decide +kernel
theorem dX12_open_80 : decode cX12_open 80 = .ok (.getfield 139, 3) := by decide +kernel
theorem dX12_open_83 : decode cX12_open 83 = .ok (.iload_n 2, 1) := by decide +kernel
theorem dX12_open_84 : decode cX12_open 84 = .ok (.bipush 100, 2) := by decide +kernel
theorem dX12_open_86 : decode cX12_open 86 = .ok (.irem, 1) := by decide +kernel
theorem dX12_open_87 : decode cX12_open 87 = .ok (.iastore, 1) := by decide +kernel
theorem dX12_open_88 : decode cX12_open 88 = .ok (.aload_n 0, 1) := by decide +kernel
theorem dX12_open_89 : decode cX12_open 89 = .ok (.getfield 35, 3) := by decide +kernel
theorem dX12_open_92 : decode cX12_open 92 = .ok (.aload_n 0, 1) := by decide +kernel
theorem dX12_open_93 : decode cX12_open 93 = .ok (.getfield 139, 3) := by decide +kernel
theorem dX12_open_96 : decode cX12_open 96 = .ok (.aload_n 0, 1) := by decide +kernel
theorem dX12_open_97 : decode cX12_open 97 = .ok (.getfield 162, 3) := by decide +kernel
theorem dX12_open_100 : decode cX12_open 100 = .ok (.iastore, 1) := by decide +kernel
theorem dX12_open_101 : decode cX12_open 101 = .ok (.aload_n 0, 1) := by decide +kernel
theorem dX12_open_102 : decode cX12_open 102 = .ok (.dup, 1) := by decide +kernel
theorem dX12_open_103 : decode cX12_open 103 = .ok (.getfield 139, 3) := by decide +kernel
theorem dX12_open_106 : decode cX12_open 106 = .ok (.iconst 1, 1) := by decide +kernel
theorem dX12_open_107 : decode cX12_open 107 = .ok (.iadd, 1) := by decide +kernel
theorem dX12_open_108 : decode cX12_open 108 = .ok (.putfield 139, 3) := by decide +kernel
theorem dX12_open_111 : decode cX12_open 111 = .ok (.aload_n 0, 1) := by decide +kernel
theorem dX12_open_112 : decode cX12_open 112 = .ok (.getfield 139, 3) := by decide +kernel
theorem dX12_open_115 : decode cX12_open 115 = .ok (.iconst 1, 1) := by decide +kernel
theorem dX12_open_116 : decode cX12_open 116 = .ok (.isub, 1) := by decide +kernel
theorem dX12_open_117 : decode cX12_open 117 = .ok (.ireturn, 1) := by decide +kernel
theorem dX12_close_0 : decode cX12_close 0 = .ok (.aload_n 0, 1) := by decide +kernel
theorem dX12_close_1 : decode cX12_close 1 = .ok (.iload_n 1, 1) := by decide +kernel
theorem dX12_close_2 : decode cX12_close 2 = .ok (.invokevirtual 192, 3) := by decide +kernel
theorem dX12_close_5 : decode cX12_close 5 = .ok (.ifCond .ne 5, 3) := by decide +kernel
theorem dX12_close_8 : decode cX12_close 8 = .ok (.iconst (-1), 1) := by decide +kernel
theorem dX12_close_9 : decode cX12_close 9 = .ok (.ireturn, 1) := by decide +kernel
theorem dX12_close_10 : decode cX12_close 10 = .ok (.aload_n 0, 1) := by decide +kernel
theorem dX12_close_11 : decode cX12_close 11 = .ok (.iload_n 1, 1) := by decide +kernel
theorem dX12_close_12 : decode cX12_close 12 = .ok (.invokevirtual 176, 3) := by decide +kernel
theorem dX12_close_15 : decode cX12_close 15 = .ok (.ifCond .ne 6, 3) := by decide +kernel
theorem dX12_close_18 : decode cX12_close 18 = .ok (.bipush (-3), 2) := by decide +kernel
theorem dX12_close_20 : decode cX12_close 20 = .ok (.ireturn, 1) := by decide +kernel
theorem dX12_close_21 : decode cX12_close 21 = .ok (.aload_n 0, 1) := by decide +kernel
theorem dX12_close_22 : decode cX12_close 22 = .ok (.iload_n 1, 1) := by decide +kernel
theorem dX12_close_23 : decode cX12_close 23 = .ok (.invokevirtual 165, 3) := by decide +kernel
theorem dX12_close_26 : decode cX12_close 26 = .ok (.ifCond .eq 9, 3) := by decide +kernel
theorem dX12_close_29 : decode cX12_close 29 = .ok (.aload_n 0, 1) := by decide +kernel
theorem dX12_close_30 : decode cX12_close 30 = .ok (.iload_n 1, 1) := by decide +kernel
theorem dX12_close_31 : decode cX12_close 31 = .ok (.iconst 3, 1) := by decide +kernel
theorem dX12_close_32 : decode cX12_close 32 = .ok (.invokevirtual 172, 3) := by decide +kernel
theorem dX12_close_35 : decode cX12_close 35 = .ok (.aload_n 0, 1) := by decide +kernel
theorem dX12_close_36 : decode cX12_close 36 = .ok (.getfield 38, 3) := by decide +kernel
theorem dX12_close_39 : decode cX12_close 39 = .ok (.iload_n 1, 1) := by decide +kernel
theorem dX12_close_40 : decode cX12_close 40 = .ok (.aload_n 0, 1) := by decide +kernel
theorem dX12_close_41 : decode cX12_close 41 = .ok (.getfield 162, 3) := by decide +kernel
theorem dX12_close_44 : decode cX12_close 44 = .ok (.iastore, 1) := by decide +kernel
theorem dX12_close_45 : decode cX12_close 45 = .ok (.iconst 1, 1) := by decide +kernel
theorem dX12_close_46 : decode cX12_close 46 = .ok (.ireturn, 1) := by decide +kernel
theorem dX12_reach_0 : decode cX12_reach 0 = .ok (.aload_n 0, 1) := by decide +kernel
theorem dX12_reach_1 : decode cX12_reach 1 = .ok (.iload_n 1, 1) := by decide +kernel
theorem dX12_reach_2 : decode cX12_reach 2 = .ok (.invokevirtual 192, 3) := by decide +kernel
theorem dX12_reach_5 : decode cX12_reach 5 = .ok (.ifCond .eq 14, 3) := by decide +kernel
theorem dX12_reach_8 : decode cX12_reach 8 = .ok (.iload_n 2, 1) := by decide +kernel
theorem dX12_reach_9 : decode cX12_reach 9 = .ok (.iconst 0, 1) := by decide +kernel
theorem dX12_reach_10 : decode cX12_reach 10 = .ok (.sipush 999, 3) := by decide +kernel
theorem dX12_reach_13 : decode cX12_reach 13 = .ok (.invokestatic 142, 3) := by decide +kernel
theorem dX12_reach_16 : decode cX12_reach 16 = .ok (.ifCond .ne 5, 3) := by decide +kernel
theorem dX12_reach_19 : decode cX12_reach 19 = .ok (.iconst (-1), 1) := by decide +kernel
theorem dX12_reach_20 : decode cX12_reach 20 = .ok (.ireturn, 1) := by decide +kernel
theorem dX12_reach_21 : decode cX12_reach 21 = .ok (.aload_n 0, 1) := by decide +kernel
theorem dX12_reach_22 : decode cX12_reach 22 = .ok (.iload_n 1, 1) := by decide +kernel
theorem dX12_reach_23 : decode cX12_reach 23 = .ok (.invokevirtual 176, 3) := by decide +kernel
theorem dX12_reach_26 : decode cX12_reach 26 = .ok (.ifCond .ne 6, 3) := by decide +kernel
theorem dX12_reach_29 : decode cX12_reach 29 = .ok (.bipush (-3), 2) := by decide +kernel
theorem dX12_reach_31 : decode cX12_reach 31 = .ok (.ireturn, 1) := by decide +kernel
theorem dX12_reach_32 : decode cX12_reach 32 = .ok (.aload_n 0, 1) := by decide +kernel
theorem dX12_reach_33 : decode cX12_reach 33 = .ok (.getfield 41, 3) := by decide +kernel
theorem dX12_reach_36 : decode cX12_reach 36 = .ok (.iload_n 1, 1) := by decide +kernel
theorem dX12_reach_37 : decode cX12_reach 37 = .ok (.iaload, 1) := by decide +kernel
theorem dX12_reach_38 : decode cX12_reach 38 = .ok (.istore_n 3, 1) := by decide +kernel
theorem dX12_reach_39 : decode cX12_reach 39 = .ok (.aload_n 0, 1) := by decide +kernel
theorem dX12_reach_40 : decode cX12_reach 40 = .ok (.getfield 41, 3) := by decide +kernel
theorem dX12_reach_43 : decode cX12_reach 43 = .ok (.iload_n 1, 1) := by decide +kernel
theorem dX12_reach_44 : decode cX12_reach 44 = .ok (.iload_n 2, 1) := by decide +kernel
theorem dX12_reach_45 : decode cX12_reach 45 = .ok (.iastore, 1) := by decide +kernel
theorem dX12_reach_46 : decode cX12_reach 46 = .ok (.iload_n 3, 1) := by decide +kernel
theorem dX12_reach_47 : decode cX12_reach 47 = .ok (.ireturn, 1) := by decide +kernel
theorem dX12_whose_0 : decode cX12_whose 0 = .ok (.aload_n 0, 1) := by decide +kernel
theorem dX12_whose_1 : decode cX12_whose 1 = .ok (.iload_n 1, 1) := by decide +kernel
theorem dX12_whose_2 : decode cX12_whose 2 = .ok (.invokevirtual 150, 3) := by decide +kernel
theorem dX12_whose_5 : decode cX12_whose 5 = .ok (.ifCond .ne 5, 3) := by decide +kernel
theorem dX12_whose_8 : decode cX12_whose 8 = .ok (.iconst (-1), 1) := by decide +kernel
theorem dX12_whose_9 : decode cX12_whose 9 = .ok (.ireturn, 1) := by decide +kernel
theorem dX12_whose_10 : decode cX12_whose 10 = .ok (.aload_n 0, 1) := by decide +kernel
theorem dX12_whose_11 : decode cX12_whose 11 = .ok (.iload_n 1, 1) := by decide +kernel
theorem dX12_whose_12 : decode cX12_whose 12 = .ok (.invokevirtual 179, 3) := by decide +kernel
theorem dX12_whose_15 : decode cX12_whose 15 = .ok (.istore_n 2, 1) := by decide +kernel
theorem dX12_whose_16 : decode cX12_whose 16 = .ok (.iload_n 2, 1) := by decide +kernel
theorem dX12_whose_17 : decode cX12_whose 17 = .ok (.ifCond .ge 8, 3) := by decide +kernel
theorem dX12_whose_20 : decode cX12_whose 20 = .ok (.bipush (-4), 2) := by decide +kernel
theorem dX12_whose_22 : decode cX12_whose 22 = .ok (.goto 4, 3) := by decide +kernel
theorem dX12_whose_25 : decode cX12_whose 25 = .ok (.iload_n 2, 1) := by decide +kernel
theorem dX12_whose_26 : decode cX12_whose 26 = .ok (.ireturn, 1) := by decide +kernel
theorem dX12_landSize_0 : decode cX12_landSize 0 = .ok (.iconst 0, 1) := by decide +kernel
theorem dX12_landSize_1 : decode cX12_landSize 1 = .ok (.istore_n 2, 1) := by decide +kernel
theorem dX12_landSize_2 : decode cX12_landSize 2 = .ok (.iconst 0, 1) := by decide +kernel
theorem dX12_landSize_3 : decode cX12_landSize 3 = .ok (.istore_n 3, 1) := by decide +kernel
theorem dX12_landSize_4 : decode cX12_landSize 4 = .ok (.iload_n 3, 1) := by decide +kernel
theorem dX12_landSize_5 : decode cX12_landSize 5 = .ok (.aload_n 0, 1) := by decide +kernel
theorem dX12_landSize_6 : decode cX12_landSize 6 = .ok (.getfield 136, 3) := by decide +kernel
theorem dX12_landSize_9 : decode cX12_landSize 9 = .ok (.if_icmp .ge 26, 3) := by decide +kernel
theorem dX12_landSize_12 : decode cX12_landSize 12 = .ok (.iload_n 2, 1) := by decide +kernel
theorem dX12_landSize_13 : decode cX12_landSize 13 = .ok (.aload_n 0, 1) := by decide +kernel
theorem dX12_landSize_14 : decode cX12_landSize 14 = .ok (.iload_n 3, 1) := by decide +kernel
theorem dX12_landSize_15 : decode cX12_landSize 15 = .ok (.invokevirtual 179, 3) := by decide +kernel
theorem dX12_landSize_18 : decode cX12_landSize 18 = .ok (.iload_n 1, 1) := by decide +kernel
theorem dX12_landSize_19 : decode cX12_landSize 19 = .ok (.if_icmp .ne 7, 3) := by decide +kernel
theorem dX12_landSize_22 : decode cX12_landSize 22 = .ok (.iconst 1, 1) := by decide +kernel
theorem dX12_landSize_23 : decode cX12_landSize 23 = .ok (.goto 4, 3) := by decide +kernel
theorem dX12_landSize_26 : decode cX12_landSize 26 = .ok (.iconst 0, 1) := by decide +kernel
theorem dX12_landSize_27 : decode cX12_landSize 27 = .ok (.iadd, 1) := by decide +kernel
theorem dX12_landSize_28 : decode cX12_landSize 28 = .ok (.istore_n 2, 1) := by decide +kernel
theorem dX12_landSize_29 : decode cX12_landSize 29 = .ok (.iinc 3 1, 3) := by decide +kernel
theorem dX12_landSize_32 : decode cX12_landSize 32 = .ok (.goto (-28), 3) := by decide +kernel
theorem dX12_landSize_35 : decode cX12_landSize 35 = .ok (.iload_n 2, 1) := by decide +kernel
theorem dX12_landSize_36 : decode cX12_landSize 36 = .ok (.ireturn, 1) := by decide +kernel
theorem dX12_ofShop_0 : decode cX12_ofShop 0 = .ok (.aload_n 0, 1) := by decide +kernel
theorem dX12_ofShop_1 : decode cX12_ofShop 1 = .ok (.iload_n 1, 1) := by decide +kernel
theorem dX12_ofShop_2 : decode cX12_ofShop 2 = .ok (.invokevirtual 192, 3) := by decide +kernel
theorem dX12_ofShop_5 : decode cX12_ofShop 5 = .ok (.ifCond .ne 5, 3) := by decide +kernel
theorem dX12_ofShop_8 : decode cX12_ofShop 8 = .ok (.iconst (-1), 1) := by decide +kernel
theorem dX12_ofShop_9 : decode cX12_ofShop 9 = .ok (.ireturn, 1) := by decide +kernel
theorem dX12_ofShop_10 : decode cX12_ofShop 10 = .ok (.iload_n 2, 1) := by decide +kernel
theorem dX12_ofShop_11 : decode cX12_ofShop 11 = .ok (.tableswitch 100 0 7 #[45, 52, 59, 66, 73, 80, 87, 93], 45) := by decide +kernel
theorem dX12_ofShop_56 : decode cX12_ofShop 56 = .ok (.aload_n 0, 1) := by decide +kernel
theorem dX12_ofShop_57 : decode cX12_ofShop 57 = .ok (.getfield 26, 3) := by decide +kernel
theorem dX12_ofShop_60 : decode cX12_ofShop 60 = .ok (.iload_n 1, 1) := by decide +kernel
theorem dX12_ofShop_61 : decode cX12_ofShop 61 = .ok (.iaload, 1) := by decide +kernel
theorem dX12_ofShop_62 : decode cX12_ofShop 62 = .ok (.ireturn, 1) := by decide +kernel
theorem dX12_ofShop_63 : decode cX12_ofShop 63 = .ok (.aload_n 0, 1) := by decide +kernel
theorem dX12_ofShop_64 : decode cX12_ofShop 64 = .ok (.getfield 29, 3) := by decide +kernel
theorem dX12_ofShop_67 : decode cX12_ofShop 67 = .ok (.iload_n 1, 1) := by decide +kernel
theorem dX12_ofShop_68 : decode cX12_ofShop 68 = .ok (.iaload, 1) := by decide +kernel
theorem dX12_ofShop_69 : decode cX12_ofShop 69 = .ok (.ireturn, 1) := by decide +kernel
theorem dX12_ofShop_70 : decode cX12_ofShop 70 = .ok (.aload_n 0, 1) := by decide +kernel
theorem dX12_ofShop_71 : decode cX12_ofShop 71 = .ok (.getfield 32, 3) := by decide +kernel
theorem dX12_ofShop_74 : decode cX12_ofShop 74 = .ok (.iload_n 1, 1) := by decide +kernel
theorem dX12_ofShop_75 : decode cX12_ofShop 75 = .ok (.iaload, 1) := by decide +kernel
theorem dX12_ofShop_76 : decode cX12_ofShop 76 = .ok (.ireturn, 1) := by decide +kernel
theorem dX12_ofShop_77 : decode cX12_ofShop 77 = .ok (.aload_n 0, 1) := by decide +kernel
theorem dX12_ofShop_78 : decode cX12_ofShop 78 = .ok (.getfield 35, 3) := by decide +kernel
theorem dX12_ofShop_81 : decode cX12_ofShop 81 = .ok (.iload_n 1, 1) := by decide +kernel
theorem dX12_ofShop_82 : decode cX12_ofShop 82 = .ok (.iaload, 1) := by decide +kernel
theorem dX12_ofShop_83 : decode cX12_ofShop 83 = .ok (.ireturn, 1) := by decide +kernel
theorem dX12_ofShop_84 : decode cX12_ofShop 84 = .ok (.aload_n 0, 1) := by decide +kernel
theorem dX12_ofShop_85 : decode cX12_ofShop 85 = .ok (.getfield 38, 3) := by decide +kernel
theorem dX12_ofShop_88 : decode cX12_ofShop 88 = .ok (.iload_n 1, 1) := by decide +kernel
theorem dX12_ofShop_89 : decode cX12_ofShop 89 = .ok (.iaload, 1) := by decide +kernel
theorem dX12_ofShop_90 : decode cX12_ofShop 90 = .ok (.ireturn, 1) := by decide +kernel
theorem dX12_ofShop_91 : decode cX12_ofShop 91 = .ok (.aload_n 0, 1) := by decide +kernel
theorem dX12_ofShop_92 : decode cX12_ofShop 92 = .ok (.getfield 41, 3) := by decide +kernel
theorem dX12_ofShop_95 : decode cX12_ofShop 95 = .ok (.iload_n 1, 1) := by decide +kernel
theorem dX12_ofShop_96 : decode cX12_ofShop 96 = .ok (.iaload, 1) := by decide +kernel
theorem dX12_ofShop_97 : decode cX12_ofShop 97 = .ok (.ireturn, 1) := by decide +kernel
theorem dX12_ofShop_98 : decode cX12_ofShop 98 = .ok (.aload_n 0, 1) := by decide +kernel
theorem dX12_ofShop_99 : decode cX12_ofShop 99 = .ok (.iload_n 1, 1) := by decide +kernel
theorem dX12_ofShop_100 : decode cX12_ofShop 100 = .ok (.invokevirtual 195, 3) := by decide +kernel
theorem dX12_ofShop_103 : decode cX12_ofShop 103 = .ok (.ireturn, 1) := by decide +kernel
theorem dX12_ofShop_104 : decode cX12_ofShop 104 = .ok (.aload_n 0, 1) := by decide +kernel
theorem dX12_ofShop_105 : decode cX12_ofShop 105 = .ok (.getfield 44, 3) := by decide +kernel
theorem dX12_ofShop_108 : decode cX12_ofShop 108 = .ok (.iload_n 1, 1) := by decide +kernel
theorem dX12_ofShop_109 : decode cX12_ofShop 109 = .ok (.iaload, 1) := by decide +kernel
theorem dX12_ofShop_110 : decode cX12_ofShop 110 = .ok (.ireturn, 1) := by decide +kernel
theorem dX12_ofShop_111 : decode cX12_ofShop 111 = .ok (.iconst (-1), 1) := by decide +kernel
theorem dX12_ofShop_112 : decode cX12_ofShop 112 = .ok (.ireturn, 1) := by decide +kernel
theorem dX12_draws_0 : decode cX12_draws 0 = .ok (.iload_n 1, 1) := by decide +kernel
theorem dX12_draws_1 : decode cX12_draws 1 = .ok (.aload_n 0, 1) := by decide +kernel
theorem dX12_draws_2 : decode cX12_draws 2 = .ok (.getfield 139, 3) := by decide +kernel
theorem dX12_draws_5 : decode cX12_draws 5 = .ok (.if_icmp .ge 11, 3) := by decide +kernel
theorem dX12_draws_8 : decode cX12_draws 8 = .ok (.aload_n 0, 1) := by decide +kernel
theorem dX12_draws_9 : decode cX12_draws 9 = .ok (.iload_n 1, 1) := by decide +kernel
theorem dX12_draws_10 : decode cX12_draws 10 = .ok (.invokevirtual 176, 3) := by decide +kernel
theorem dX12_draws_13 : decode cX12_draws 13 = .ok (.goto 25, 3) := by decide +kernel
theorem dX12_draws_16 : decode cX12_draws 16 = .ok (.iload_n 1, 1) := by decide +kernel
theorem dX12_draws_17 : decode cX12_draws 17 = .ok (.bipush 40, 2) := by decide +kernel
theorem dX12_draws_19 : decode cX12_draws 19 = .ok (.if_icmp .lt 18, 3) := by decide +kernel
theorem dX12_draws_22 : decode cX12_draws 22 = .ok (.iload_n 1, 1) := by decide +kernel
theorem dX12_draws_23 : decode cX12_draws 23 = .ok (.bipush 40, 2) := by decide +kernel
theorem dX12_draws_25 : decode cX12_draws 25 = .ok (.aload_n 0, 1) := by decide +kernel
theorem dX12_draws_26 : decode cX12_draws 26 = .ok (.getfield 198, 3) := by decide +kernel
theorem dX12_draws_29 : decode cX12_draws 29 = .ok (.iadd, 1) := by decide +kernel
theorem dX12_draws_30 : decode cX12_draws 30 = .ok (.if_icmp .ge 7, 3) := by decide +kernel
theorem dX12_draws_33 : decode cX12_draws 33 = .ok (.iconst 1, 1) := by decide +kernel
theorem dX12_draws_34 : decode cX12_draws 34 = .ok (.goto 4, 3) := by decide +kernel
theorem dX12_draws_37 : decode cX12_draws 37 = .ok (.iconst 0, 1) := by decide +kernel
theorem dX12_draws_38 : decode cX12_draws 38 = .ok (.ireturn, 1) := by decide +kernel
theorem dX12_pull_0 : decode cX12_pull 0 = .ok (.aload_n 0, 1) := by decide +kernel
theorem dX12_pull_1 : decode cX12_pull 1 = .ok (.iload_n 1, 1) := by decide +kernel
theorem dX12_pull_2 : decode cX12_pull 2 = .ok (.invokevirtual 201, 3) := by decide +kernel
theorem dX12_pull_5 : decode cX12_pull 5 = .ok (.ifCond .eq 17, 3) := by decide +kernel
theorem dX12_pull_8 : decode cX12_pull 8 = .ok (.aload_n 0, 1) := by decide +kernel
theorem dX12_pull_9 : decode cX12_pull 9 = .ok (.aload_n 0, 1) := by decide +kernel
theorem dX12_pull_10 : decode cX12_pull 10 = .ok (.getfield 26, 3) := by decide +kernel
theorem dX12_pull_13 : decode cX12_pull 13 = .ok (.iload_n 1, 1) := by decide +kernel
theorem dX12_pull_14 : decode cX12_pull 14 = .ok (.iaload, 1) := by decide +kernel
theorem dX12_pull_15 : decode cX12_pull 15 = .ok (.iload_n 2, 1) := by decide +kernel
theorem dX12_pull_16 : decode cX12_pull 16 = .ok (.invokevirtual 158, 3) := by decide +kernel
theorem dX12_pull_19 : decode cX12_pull 19 = .ok (.goto 5, 3) := by decide +kernel
theorem dX12_pull_22 : decode cX12_pull 22 = .ok (.ldc 154, 2) := by decide +kernel
theorem dX12_pull_24 : decode cX12_pull 24 = .ok (.istore_n 3, 1) := by decide +kernel
theorem dX12_pull_25 : decode cX12_pull 25 = .ok (.iload_n 3, 1) := by decide +kernel
theorem dX12_pull_26 : decode cX12_pull 26 = .ok (.ldc 154, 2) := by decide +kernel
theorem dX12_pull_28 : decode cX12_pull 28 = .ok (.if_icmp .ge 20, 3) := by decide +kernel
theorem dX12_pull_31 : decode cX12_pull 31 = .ok (.aload_n 0, 1) := by decide +kernel
theorem dX12_pull_32 : decode cX12_pull 32 = .ok (.getfield 32, 3) := by decide +kernel
theorem dX12_pull_35 : decode cX12_pull 35 = .ok (.iload_n 1, 1) := by decide +kernel
theorem dX12_pull_36 : decode cX12_pull 36 = .ok (.iaload, 1) := by decide +kernel
theorem dX12_pull_37 : decode cX12_pull 37 = .ok (.sipush 1000, 3) := by decide +kernel
theorem dX12_pull_40 : decode cX12_pull 40 = .ok (.imul, 1) := by decide +kernel
theorem dX12_pull_41 : decode cX12_pull 41 = .ok (.iconst 1, 1) := by decide +kernel
theorem dX12_pull_42 : decode cX12_pull 42 = .ok (.iload_n 3, 1) := by decide +kernel
theorem dX12_pull_43 : decode cX12_pull 43 = .ok (.iadd, 1) := by decide +kernel
theorem dX12_pull_44 : decode cX12_pull 44 = .ok (.idiv, 1) := by decide +kernel
theorem dX12_pull_45 : decode cX12_pull 45 = .ok (.goto 4, 3) := by decide +kernel
theorem dX12_pull_48 : decode cX12_pull 48 = .ok (.iconst (-1), 1) := by decide +kernel
theorem dX12_pull_49 : decode cX12_pull 49 = .ok (.ireturn, 1) := by decide +kernel
theorem dX12_foretoldOf_0 : decode cX12_foretoldOf 0 = .ok (.lconst 0, 1) := by decide +kernel
theorem dX12_foretoldOf_1 : decode cX12_foretoldOf 1 = .ok (.lstore_n 2, 1) := by decide +kernel
theorem dX12_foretoldOf_2 : decode cX12_foretoldOf 2 = .ok (.iconst 0, 1) := by decide +kernel
theorem dX12_foretoldOf_3 : decode cX12_foretoldOf 3 = .ok (.istore 4, 2) := by decide +kernel
theorem dX12_foretoldOf_5 : decode cX12_foretoldOf 5 = .ok (.iload 4, 2) := by decide +kernel
theorem dX12_foretoldOf_7 : decode cX12_foretoldOf 7 = .ok (.aload_n 0, 1) := by decide +kernel
theorem dX12_foretoldOf_8 : decode cX12_foretoldOf 8 = .ok (.getfield 136, 3) := by decide +kernel
theorem dX12_foretoldOf_11 : decode cX12_foretoldOf 11 = .ok (.if_icmp .ge 93, 3) := by decide +kernel
theorem dX12_foretoldOf_14 : decode cX12_foretoldOf 14 = .ok (.lconst 0, 1) := by decide +kernel
theorem dX12_foretoldOf_15 : decode cX12_foretoldOf 15 = .ok (.lstore 5, 2) := by decide +kernel
theorem dX12_foretoldOf_17 : decode cX12_foretoldOf 17 = .ok (.iconst 0, 1) := by decide +kernel
theorem dX12_foretoldOf_18 : decode cX12_foretoldOf 18 = .ok (.istore 7, 2) := by decide +kernel
theorem dX12_foretoldOf_20 : decode cX12_foretoldOf 20 = .ok (.iload 7, 2) := by decide +kernel
theorem dX12_foretoldOf_22 : decode cX12_foretoldOf 22 = .ok (.bipush 43, 2) := by decide +kernel
theorem dX12_foretoldOf_24 : decode cX12_foretoldOf 24 = .ok (.if_icmp .ge 36, 3) := by decide +kernel
theorem dX12_foretoldOf_27 : decode cX12_foretoldOf 27 = .ok (.aload_n 0, 1) := by decide +kernel
theorem dX12_foretoldOf_28 : decode cX12_foretoldOf 28 = .ok (.iload 7, 2) := by decide +kernel
theorem dX12_foretoldOf_30 : decode cX12_foretoldOf 30 = .ok (.iload 4, 2) := by decide +kernel
theorem dX12_foretoldOf_32 : decode cX12_foretoldOf 32 = .ok (.invokevirtual 204, 3) := by decide +kernel
theorem dX12_foretoldOf_35 : decode cX12_foretoldOf 35 = .ok (.istore 8, 2) := by decide +kernel
theorem dX12_foretoldOf_37 : decode cX12_foretoldOf 37 = .ok (.lload 5, 2) := by decide +kernel
theorem dX12_foretoldOf_39 : decode cX12_foretoldOf 39 = .ok (.iload 8, 2) := by decide +kernel
theorem dX12_foretoldOf_41 : decode cX12_foretoldOf 41 = .ok (.ifCond .ge 7, 3) := by decide +kernel
theorem dX12_foretoldOf_44 : decode cX12_foretoldOf 44 = .ok (.lconst 0, 1) := by decide +kernel
theorem dX12_foretoldOf_45 : decode cX12_foretoldOf 45 = .ok (.goto 6, 3) := by decide +kernel
theorem dX12_foretoldOf_48 : decode cX12_foretoldOf 48 = .ok (.iload 8, 2) := by decide +kernel
theorem dX12_foretoldOf_50 : decode cX12_foretoldOf 50 = .ok (.i2l, 1) := by decide +kernel
theorem dX12_foretoldOf_51 : decode cX12_foretoldOf 51 = .ok (.ladd, 1) := by decide +kernel
theorem dX12_foretoldOf_52 : decode cX12_foretoldOf 52 = .ok (.lstore 5, 2) := by decide +kernel
theorem dX12_foretoldOf_54 : decode cX12_foretoldOf 54 = .ok (.iinc 7 1, 3) := by decide +kernel
theorem dX12_foretoldOf_57 : decode cX12_foretoldOf 57 = .ok (.goto (-37), 3) := by decide +kernel
theorem dX12_foretoldOf_60 : decode cX12_foretoldOf 60 = .ok (.aload_n 0, 1) := by decide +kernel
theorem dX12_foretoldOf_61 : decode cX12_foretoldOf 61 = .ok (.iload_n 1, 1) := by decide +kernel
theorem dX12_foretoldOf_62 : decode cX12_foretoldOf 62 = .ok (.iload 4, 2) := by decide +kernel
theorem dX12_foretoldOf_64 : decode cX12_foretoldOf 64 = .ok (.invokevirtual 204, 3) := by decide +kernel
theorem dX12_foretoldOf_67 : decode cX12_foretoldOf 67 = .ok (.istore 7, 2) := by decide +kernel
theorem dX12_foretoldOf_69 : decode cX12_foretoldOf 69 = .ok (.iload 7, 2) := by decide +kernel
theorem dX12_foretoldOf_71 : decode cX12_foretoldOf 71 = .ok (.ifCond .le 27, 3) := by decide +kernel
theorem dX12_foretoldOf_74 : decode cX12_foretoldOf 74 = .ok (.lload_n 2, 1) := by decide +kernel
theorem dX12_foretoldOf_75 : decode cX12_foretoldOf 75 = .ok (.aload_n 0, 1) := by decide +kernel
theorem dX12_foretoldOf_76 : decode cX12_foretoldOf 76 = .ok (.getfield 9, 3) := by decide +kernel
theorem dX12_foretoldOf_79 : decode cX12_foretoldOf 79 = .ok (.iload 4, 2) := by decide +kernel
theorem dX12_foretoldOf_81 : decode cX12_foretoldOf 81 = .ok (.iaload, 1) := by decide +kernel
theorem dX12_foretoldOf_82 : decode cX12_foretoldOf 82 = .ok (.i2l, 1) := by decide +kernel
theorem dX12_foretoldOf_83 : decode cX12_foretoldOf 83 = .ok (.aload_n 0, 1) := by decide +kernel
theorem dX12_foretoldOf_84 : decode cX12_foretoldOf 84 = .ok (.getfield 19, 3) := by decide +kernel
theorem dX12_foretoldOf_87 : decode cX12_foretoldOf 87 = .ok (.i2l, 1) := by decide +kernel
theorem dX12_foretoldOf_88 : decode cX12_foretoldOf 88 = .ok (.lmul, 1) := by decide +kernel
theorem dX12_foretoldOf_89 : decode cX12_foretoldOf 89 = .ok (.iload 7, 2) := by decide +kernel
theorem dX12_foretoldOf_91 : decode cX12_foretoldOf 91 = .ok (.i2l, 1) := by decide +kernel
theorem dX12_foretoldOf_92 : decode cX12_foretoldOf 92 = .ok (.lmul, 1) := by decide +kernel
theorem dX12_foretoldOf_93 : decode cX12_foretoldOf 93 = .ok (.lload 5, 2) := by decide +kernel
theorem dX12_foretoldOf_95 : decode cX12_foretoldOf 95 = .ok (.ldiv, 1) := by decide +kernel
theorem dX12_foretoldOf_96 : decode cX12_foretoldOf 96 = .ok (.ladd, 1) := by decide +kernel
theorem dX12_foretoldOf_97 : decode cX12_foretoldOf 97 = .ok (.lstore_n 2, 1) := by decide +kernel
theorem dX12_foretoldOf_98 : decode cX12_foretoldOf 98 = .ok (.iinc 4 1, 3) := by decide +kernel
theorem dX12_foretoldOf_101 : decode cX12_foretoldOf 101 = .ok (.goto (-96), 3) := by decide +kernel
theorem dX12_foretoldOf_104 : decode cX12_foretoldOf 104 = .ok (.lload_n 2, 1) := by decide +kernel
theorem dX12_foretoldOf_105 : decode cX12_foretoldOf 105 = .ok (.lreturn, 1) := by decide +kernel
theorem dX12_foretold_0 : decode cX12_foretold 0 = .ok (.aload_n 0, 1) := by decide +kernel
theorem dX12_foretold_1 : decode cX12_foretold 1 = .ok (.iload_n 1, 1) := by decide +kernel
theorem dX12_foretold_2 : decode cX12_foretold 2 = .ok (.invokevirtual 192, 3) := by decide +kernel
theorem dX12_foretold_5 : decode cX12_foretold 5 = .ok (.ifCond .ne 5, 3) := by decide +kernel
theorem dX12_foretold_8 : decode cX12_foretold 8 = .ok (.iconst (-1), 1) := by decide +kernel
theorem dX12_foretold_9 : decode cX12_foretold 9 = .ok (.ireturn, 1) := by decide +kernel
theorem dX12_foretold_10 : decode cX12_foretold 10 = .ok (.aload_n 0, 1) := by decide +kernel
theorem dX12_foretold_11 : decode cX12_foretold 11 = .ok (.iconst 0, 1) := by decide +kernel
theorem dX12_foretold_12 : decode cX12_foretold 12 = .ok (.putfield 198, 3) := by decide +kernel
theorem dX12_foretold_15 : decode cX12_foretold 15 = .ok (.aload_n 0, 1) := by decide +kernel
theorem dX12_foretold_16 : decode cX12_foretold 16 = .ok (.iload_n 1, 1) := by decide +kernel
theorem dX12_foretold_17 : decode cX12_foretold 17 = .ok (.invokevirtual 176, 3) := by decide +kernel
theorem dX12_foretold_20 : decode cX12_foretold 20 = .ok (.ifCond .eq 12, 3) := by decide +kernel
theorem dX12_foretold_23 : decode cX12_foretold 23 = .ok (.aload_n 0, 1) := by decide +kernel
theorem dX12_foretold_24 : decode cX12_foretold 24 = .ok (.iload_n 1, 1) := by decide +kernel
theorem dX12_foretold_25 : decode cX12_foretold 25 = .ok (.invokevirtual 207, 3) := by decide +kernel
theorem dX12_foretold_28 : decode cX12_foretold 28 = .ok (.l2i, 1) := by decide +kernel
theorem dX12_foretold_29 : decode cX12_foretold 29 = .ok (.goto 5, 3) := by decide +kernel
theorem dX12_foretold_32 : decode cX12_foretold 32 = .ok (.bipush (-3), 2) := by decide +kernel
theorem dX12_foretold_34 : decode cX12_foretold 34 = .ok (.ireturn, 1) := by decide +kernel
theorem dX12_harmBy_0 : decode cX12_harmBy 0 = .ok (.lload_n 0, 1) := by decide +kernel
theorem dX12_harmBy_1 : decode cX12_harmBy 1 = .ok (.lconst 0, 1) := by decide +kernel
theorem dX12_harmBy_2 : decode cX12_harmBy 2 = .ok (.lcmp, 1) := by decide +kernel
theorem dX12_harmBy_3 : decode cX12_harmBy 3 = .ok (.ifCond .ne 7, 3) := by decide +kernel
theorem dX12_harmBy_6 : decode cX12_harmBy 6 = .ok (.iconst 0, 1) := by decide +kernel
theorem dX12_harmBy_7 : decode cX12_harmBy 7 = .ok (.goto 17, 3) := by decide +kernel
theorem dX12_harmBy_10 : decode cX12_harmBy 10 = .ok (.lload_n 0, 1) := by decide +kernel
theorem dX12_harmBy_11 : decode cX12_harmBy 11 = .ok (.lload_n 2, 1) := by decide +kernel
theorem dX12_harmBy_12 : decode cX12_harmBy 12 = .ok (.lsub, 1) := by decide +kernel
theorem dX12_harmBy_13 : decode cX12_harmBy 13 = .ok (.ldc2_w 211, 3) := by decide +kernel
theorem dX12_harmBy_16 : decode cX12_harmBy 16 = .ok (.lmul, 1) := by decide +kernel
theorem dX12_harmBy_17 : decode cX12_harmBy 17 = .ok (.lload_n 0, 1) := by decide +kernel
theorem dX12_harmBy_18 : decode cX12_harmBy 18 = .ok (.ladd, 1) := by decide +kernel
theorem dX12_harmBy_19 : decode cX12_harmBy 19 = .ok (.lconst 1, 1) := by decide +kernel
theorem dX12_harmBy_20 : decode cX12_harmBy 20 = .ok (.lsub, 1) := by decide +kernel
theorem dX12_harmBy_21 : decode cX12_harmBy 21 = .ok (.lload_n 0, 1) := by decide +kernel
theorem dX12_harmBy_22 : decode cX12_harmBy 22 = .ok (.ldiv, 1) := by decide +kernel
theorem dX12_harmBy_23 : decode cX12_harmBy 23 = .ok (.l2i, 1) := by decide +kernel
theorem dX12_harmBy_24 : decode cX12_harmBy 24 = .ok (.ireturn, 1) := by decide +kernel
theorem dX12_harm_0 : decode cX12_harm 0 = .ok (.aload_n 0, 1) := by decide +kernel
theorem dX12_harm_1 : decode cX12_harm 1 = .ok (.iload_n 1, 1) := by decide +kernel
theorem dX12_harm_2 : decode cX12_harm 2 = .ok (.invokevirtual 192, 3) := by decide +kernel
theorem dX12_harm_5 : decode cX12_harm 5 = .ok (.ifCond .eq 21, 3) := by decide +kernel
theorem dX12_harm_8 : decode cX12_harm 8 = .ok (.aload_n 0, 1) := by decide +kernel
theorem dX12_harm_9 : decode cX12_harm 9 = .ok (.iload_n 2, 1) := by decide +kernel
theorem dX12_harm_10 : decode cX12_harm 10 = .ok (.invokevirtual 150, 3) := by decide +kernel
theorem dX12_harm_13 : decode cX12_harm 13 = .ok (.ifCond .eq 13, 3) := by decide +kernel
theorem dX12_harm_16 : decode cX12_harm 16 = .ok (.iload_n 3, 1) := by decide +kernel
theorem dX12_harm_17 : decode cX12_harm 17 = .ok (.iconst 1, 1) := by decide +kernel
theorem dX12_harm_18 : decode cX12_harm 18 = .ok (.bipush 99, 2) := by decide +kernel
theorem dX12_harm_20 : decode cX12_harm 20 = .ok (.invokestatic 142, 3) := by decide +kernel
theorem dX12_harm_23 : decode cX12_harm 23 = .ok (.ifCond .ne 5, 3) := by decide +kernel
theorem dX12_harm_26 : decode cX12_harm 26 = .ok (.iconst (-1), 1) := by decide +kernel
theorem dX12_harm_27 : decode cX12_harm 27 = .ok (.ireturn, 1) := by decide +kernel
theorem dX12_harm_28 : decode cX12_harm 28 = .ok (.aload_n 0, 1) := by decide +kernel
theorem dX12_harm_29 : decode cX12_harm 29 = .ok (.iload_n 1, 1) := by decide +kernel
theorem dX12_harm_30 : decode cX12_harm 30 = .ok (.invokevirtual 176, 3) := by decide +kernel
theorem dX12_harm_33 : decode cX12_harm 33 = .ok (.ifCond .eq 11, 3) := by decide +kernel
theorem dX12_harm_36 : decode cX12_harm 36 = .ok (.aload_n 0, 1) := by decide +kernel
theorem dX12_harm_37 : decode cX12_harm 37 = .ok (.iload_n 2, 1) := by decide +kernel
theorem dX12_harm_38 : decode cX12_harm 38 = .ok (.invokevirtual 185, 3) := by decide +kernel
theorem dX12_harm_41 : decode cX12_harm 41 = .ok (.ifCond .lt 6, 3) := by decide +kernel
theorem dX12_harm_44 : decode cX12_harm 44 = .ok (.bipush (-3), 2) := by decide +kernel
theorem dX12_harm_46 : decode cX12_harm 46 = .ok (.ireturn, 1) := by decide +kernel
theorem dX12_harm_47 : decode cX12_harm 47 = .ok (.aload_n 0, 1) := by decide +kernel
theorem dX12_harm_48 : decode cX12_harm 48 = .ok (.iconst 0, 1) := by decide +kernel
theorem dX12_harm_49 : decode cX12_harm 49 = .ok (.putfield 198, 3) := by decide +kernel
theorem dX12_harm_52 : decode cX12_harm 52 = .ok (.aload_n 0, 1) := by decide +kernel
theorem dX12_harm_53 : decode cX12_harm 53 = .ok (.iload_n 1, 1) := by decide +kernel
theorem dX12_harm_54 : decode cX12_harm 54 = .ok (.invokevirtual 207, 3) := by decide +kernel
theorem dX12_harm_57 : decode cX12_harm 57 = .ok (.lstore 4, 2) := by decide +kernel
theorem dX12_harm_59 : decode cX12_harm 59 = .ok (.aload_n 0, 1) := by decide +kernel
theorem dX12_harm_60 : decode cX12_harm 60 = .ok (.getfield 26, 3) := by decide +kernel
theorem dX12_harm_63 : decode cX12_harm 63 = .ok (.bipush 40, 2) := by decide +kernel
theorem dX12_harm_65 : decode cX12_harm 65 = .ok (.iload_n 2, 1) := by decide +kernel
theorem dX12_harm_66 : decode cX12_harm 66 = .ok (.iastore, 1) := by decide +kernel
theorem dX12_harm_67 : decode cX12_harm 67 = .ok (.aload_n 0, 1) := by decide +kernel
theorem dX12_harm_68 : decode cX12_harm 68 = .ok (.getfield 32, 3) := by decide +kernel
theorem dX12_harm_71 : decode cX12_harm 71 = .ok (.bipush 40, 2) := by decide +kernel
theorem dX12_harm_73 : decode cX12_harm 73 = .ok (.iload_n 3, 1) := by decide +kernel
theorem dX12_harm_74 : decode cX12_harm 74 = .ok (.iastore, 1) := by decide +kernel
theorem dX12_harm_75 : decode cX12_harm 75 = .ok (.aload_n 0, 1) := by decide +kernel
theorem dX12_harm_76 : decode cX12_harm 76 = .ok (.iconst 1, 1) := by decide +kernel
theorem dX12_harm_77 : decode cX12_harm 77 = .ok (.putfield 198, 3) := by decide +kernel
theorem dX12_harm_80 : decode cX12_harm 80 = .ok (.aload_n 0, 1) := by decide +kernel
theorem dX12_harm_81 : decode cX12_harm 81 = .ok (.iload_n 1, 1) := by decide +kernel
theorem dX12_harm_82 : decode cX12_harm 82 = .ok (.invokevirtual 207, 3) := by decide +kernel
theorem dX12_harm_85 : decode cX12_harm 85 = .ok (.lstore 6, 2) := by decide +kernel
theorem dX12_harm_87 : decode cX12_harm 87 = .ok (.aload_n 0, 1) := by decide +kernel
theorem dX12_harm_88 : decode cX12_harm 88 = .ok (.iconst 0, 1) := by decide +kernel
theorem dX12_harm_89 : decode cX12_harm 89 = .ok (.putfield 198, 3) := by decide +kernel
theorem dX12_harm_92 : decode cX12_harm 92 = .ok (.lload 4, 2) := by decide +kernel
theorem dX12_harm_94 : decode cX12_harm 94 = .ok (.lload 6, 2) := by decide +kernel
theorem dX12_harm_96 : decode cX12_harm 96 = .ok (.invokestatic 213, 3) := by decide +kernel
theorem dX12_harm_99 : decode cX12_harm 99 = .ok (.ireturn, 1) := by decide +kernel
theorem dX12_site_0 : decode cX12_site 0 = .ok (.aload_n 0, 1) := by decide +kernel
theorem dX12_site_1 : decode cX12_site 1 = .ok (.iload_n 1, 1) := by decide +kernel
theorem dX12_site_2 : decode cX12_site 2 = .ok (.invokevirtual 150, 3) := by decide +kernel
theorem dX12_site_5 : decode cX12_site 5 = .ok (.ifCond .ne 5, 3) := by decide +kernel
theorem dX12_site_8 : decode cX12_site 8 = .ok (.iconst (-1), 1) := by decide +kernel
theorem dX12_site_9 : decode cX12_site 9 = .ok (.ireturn, 1) := by decide +kernel
theorem dX12_site_10 : decode cX12_site 10 = .ok (.iconst 0, 1) := by decide +kernel
theorem dX12_site_11 : decode cX12_site 11 = .ok (.istore_n 2, 1) := by decide +kernel
theorem dX12_site_12 : decode cX12_site 12 = .ok (.iload_n 2, 1) := by decide +kernel
theorem dX12_site_13 : decode cX12_site 13 = .ok (.aload_n 0, 1) := by decide +kernel
theorem dX12_site_14 : decode cX12_site 14 = .ok (.getfield 217, 3) := by decide +kernel
theorem dX12_site_17 : decode cX12_site 17 = .ok (.if_icmp .ge 21, 3) := by decide +kernel
theorem dX12_site_20 : decode cX12_site 20 = .ok (.aload_n 0, 1) := by decide +kernel
theorem dX12_site_21 : decode cX12_site 21 = .ok (.getfield 47, 3) := by decide +kernel
theorem dX12_site_24 : decode cX12_site 24 = .ok (.iload_n 2, 1) := by decide +kernel
theorem dX12_site_25 : decode cX12_site 25 = .ok (.iaload, 1) := by decide +kernel
theorem dX12_site_26 : decode cX12_site 26 = .ok (.iload_n 1, 1) := by decide +kernel
theorem dX12_site_27 : decode cX12_site 27 = .ok (.if_icmp .ne 5, 3) := by decide +kernel
theorem dX12_site_30 : decode cX12_site 30 = .ok (.iconst (-1), 1) := by decide +kernel
theorem dX12_site_31 : decode cX12_site 31 = .ok (.ireturn, 1) := by decide +kernel
theorem dX12_site_32 : decode cX12_site 32 = .ok (.iinc 2 1, 3) := by decide +kernel
theorem dX12_site_35 : decode cX12_site 35 = .ok (.goto (-23), 3) := by decide +kernel
theorem dX12_site_38 : decode cX12_site 38 = .ok (.aload_n 0, 1) := by decide +kernel
theorem dX12_site_39 : decode cX12_site 39 = .ok (.getfield 217, 3) := by decide +kernel
theorem dX12_site_42 : decode cX12_site 42 = .ok (.bipush 10, 2) := by decide +kernel
theorem dX12_site_44 : decode cX12_site 44 = .ok (.if_icmp .ne 6, 3) := by decide +kernel
theorem dX12_site_47 : decode cX12_site 47 = .ok (.bipush (-2), 2) := by decide +kernel
theorem dX12_site_49 : decode cX12_site 49 = .ok (.ireturn, 1) := by decide +kernel
theorem dX12_site_50 : decode cX12_site 50 = .ok (.aload_n 0, 1) := by decide +kernel
theorem dX12_site_51 : decode cX12_site 51 = .ok (.getfield 47, 3) := by decide +kernel
theorem dX12_site_54 : decode cX12_site 54 = .ok (.aload_n 0, 1) := by decide +kernel
theorem dX12_site_55 : decode cX12_site 55 = .ok (.getfield 217, 3) := by decide +kernel
theorem dX12_site_58 : decode cX12_site 58 = .ok (.iload_n 1, 1) := by decide +kernel
theorem dX12_site_59 : decode cX12_site 59 = .ok (.iastore, 1) := by decide +kernel
theorem dX12_site_60 : decode cX12_site 60 = .ok (.aload_n 0, 1) := by decide +kernel
theorem dX12_site_61 : decode cX12_site 61 = .ok (.dup, 1) := by decide +kernel
theorem dX12_site_62 : decode cX12_site 62 = .ok (.getfield 217, 3) := by decide +kernel
theorem dX12_site_65 : decode cX12_site 65 = .ok (.iconst 1, 1) := by decide +kernel
theorem dX12_site_66 : decode cX12_site 66 = .ok (.iadd, 1) := by decide +kernel
theorem dX12_site_67 : decode cX12_site 67 = .ok (.putfield 217, 3) := by decide +kernel
theorem dX12_site_70 : decode cX12_site 70 = .ok (.aload_n 0, 1) := by decide +kernel
theorem dX12_site_71 : decode cX12_site 71 = .ok (.getfield 217, 3) := by decide +kernel
theorem dX12_site_74 : decode cX12_site 74 = .ok (.ireturn, 1) := by decide +kernel
theorem dX12_sumOf_0 : decode cX12_sumOf 0 = .ok (.iconst 0, 1) := by decide +kernel
theorem dX12_sumOf_1 : decode cX12_sumOf 1 = .ok (.istore 5, 2) := by decide +kernel
theorem dX12_sumOf_3 : decode cX12_sumOf 3 = .ok (.iload 5, 2) := by decide +kernel
theorem dX12_sumOf_5 : decode cX12_sumOf 5 = .ok (.iload_n 1, 1) := by decide +kernel
theorem dX12_sumOf_6 : decode cX12_sumOf 6 = .ok (.if_icmp .ge 53, 3) := by decide +kernel
theorem dX12_sumOf_9 : decode cX12_sumOf 9 = .ok (.aload_n 0, 1) := by decide +kernel
theorem dX12_sumOf_10 : decode cX12_sumOf 10 = .ok (.getfield 26, 3) := by decide +kernel
theorem dX12_sumOf_13 : decode cX12_sumOf 13 = .ok (.bipush 40, 2) := by decide +kernel
theorem dX12_sumOf_15 : decode cX12_sumOf 15 = .ok (.iload 5, 2) := by decide +kernel
theorem dX12_sumOf_17 : decode cX12_sumOf 17 = .ok (.iadd, 1) := by decide +kernel
theorem dX12_sumOf_18 : decode cX12_sumOf 18 = .ok (.aload_n 0, 1) := by decide +kernel
theorem dX12_sumOf_19 : decode cX12_sumOf 19 = .ok (.getfield 47, 3) := by decide +kernel
theorem dX12_sumOf_22 : decode cX12_sumOf 22 = .ok (.aload_n 0, 1) := by decide +kernel
theorem dX12_sumOf_23 : decode cX12_sumOf 23 = .ok (.getfield 50, 3) := by decide +kernel
theorem dX12_sumOf_26 : decode cX12_sumOf 26 = .ok (.iload 5, 2) := by decide +kernel
theorem dX12_sumOf_28 : decode cX12_sumOf 28 = .ok (.iaload, 1) := by decide +kernel
theorem dX12_sumOf_29 : decode cX12_sumOf 29 = .ok (.iaload, 1) := by decide +kernel
theorem dX12_sumOf_30 : decode cX12_sumOf 30 = .ok (.iastore, 1) := by decide +kernel
theorem dX12_sumOf_31 : decode cX12_sumOf 31 = .ok (.aload_n 0, 1) := by decide +kernel
theorem dX12_sumOf_32 : decode cX12_sumOf 32 = .ok (.getfield 29, 3) := by decide +kernel
theorem dX12_sumOf_35 : decode cX12_sumOf 35 = .ok (.bipush 40, 2) := by decide +kernel
theorem dX12_sumOf_37 : decode cX12_sumOf 37 = .ok (.iload 5, 2) := by decide +kernel
theorem dX12_sumOf_39 : decode cX12_sumOf 39 = .ok (.iadd, 1) := by decide +kernel
theorem dX12_sumOf_40 : decode cX12_sumOf 40 = .ok (.iload_n 2, 1) := by decide +kernel
theorem dX12_sumOf_41 : decode cX12_sumOf 41 = .ok (.iastore, 1) := by decide +kernel
theorem dX12_sumOf_42 : decode cX12_sumOf 42 = .ok (.aload_n 0, 1) := by decide +kernel
theorem dX12_sumOf_43 : decode cX12_sumOf 43 = .ok (.getfield 32, 3) := by decide +kernel
theorem dX12_sumOf_46 : decode cX12_sumOf 46 = .ok (.bipush 40, 2) := by decide +kernel
theorem dX12_sumOf_48 : decode cX12_sumOf 48 = .ok (.iload 5, 2) := by decide +kernel
theorem dX12_sumOf_50 : decode cX12_sumOf 50 = .ok (.iadd, 1) := by decide +kernel
theorem dX12_sumOf_51 : decode cX12_sumOf 51 = .ok (.iload_n 3, 1) := by decide +kernel
theorem dX12_sumOf_52 : decode cX12_sumOf 52 = .ok (.iastore, 1) := by decide +kernel
theorem dX12_sumOf_53 : decode cX12_sumOf 53 = .ok (.iinc 5 1, 3) := by decide +kernel
theorem dX12_sumOf_56 : decode cX12_sumOf 56 = .ok (.goto (-53), 3) := by decide +kernel
theorem dX12_sumOf_59 : decode cX12_sumOf 59 = .ok (.aload_n 0, 1) := by decide +kernel
theorem dX12_sumOf_60 : decode cX12_sumOf 60 = .ok (.iload_n 1, 1) := by decide +kernel
theorem dX12_sumOf_61 : decode cX12_sumOf 61 = .ok (.putfield 198, 3) := by decide +kernel
theorem dX12_sumOf_64 : decode cX12_sumOf 64 = .ok (.lconst 0, 1) := by decide +kernel
theorem dX12_sumOf_65 : decode cX12_sumOf 65 = .ok (.lstore 5, 2) := by decide +kernel
theorem dX12_sumOf_67 : decode cX12_sumOf 67 = .ok (.iconst 1, 1) := by decide +kernel
theorem dX12_sumOf_68 : decode cX12_sumOf 68 = .ok (.istore 7, 2) := by decide +kernel
theorem dX12_sumOf_70 : decode cX12_sumOf 70 = .ok (.iconst 0, 1) := by decide +kernel
theorem dX12_sumOf_71 : decode cX12_sumOf 71 = .ok (.istore 8, 2) := by decide +kernel
theorem dX12_sumOf_73 : decode cX12_sumOf 73 = .ok (.iload 8, 2) := by decide +kernel
theorem dX12_sumOf_75 : decode cX12_sumOf 75 = .ok (.bipush 40, 2) := by decide +kernel
theorem dX12_sumOf_77 : decode cX12_sumOf 77 = .ok (.iload_n 1, 1) := by decide +kernel
theorem dX12_sumOf_78 : decode cX12_sumOf 78 = .ok (.iadd, 1) := by decide +kernel
theorem dX12_sumOf_79 : decode cX12_sumOf 79 = .ok (.if_icmp .ge 76, 3) := by decide +kernel
theorem dX12_sumOf_82 : decode cX12_sumOf 82 = .ok (.iload 7, 2) := by decide +kernel
theorem dX12_sumOf_84 : decode cX12_sumOf 84 = .ok (.ifCond .eq 71, 3) := by decide +kernel
theorem dX12_sumOf_87 : decode cX12_sumOf 87 = .ok (.aload_n 0, 1) := by decide +kernel
theorem dX12_sumOf_88 : decode cX12_sumOf 88 = .ok (.iload 8, 2) := by decide +kernel
theorem dX12_sumOf_90 : decode cX12_sumOf 90 = .ok (.invokevirtual 201, 3) := by decide +kernel
theorem dX12_sumOf_93 : decode cX12_sumOf 93 = .ok (.ifCond .eq 56, 3) := by decide +kernel
theorem dX12_sumOf_96 : decode cX12_sumOf 96 = .ok (.aload_n 0, 1) := by decide +kernel
theorem dX12_sumOf_97 : decode cX12_sumOf 97 = .ok (.iload 8, 2) := by decide +kernel
theorem dX12_sumOf_99 : decode cX12_sumOf 99 = .ok (.invokevirtual 207, 3) := by decide +kernel
theorem dX12_sumOf_102 : decode cX12_sumOf 102 = .ok (.lstore 9, 2) := by decide +kernel
theorem dX12_sumOf_104 : decode cX12_sumOf 104 = .ok (.aload_n 0, 1) := by decide +kernel
theorem dX12_sumOf_105 : decode cX12_sumOf 105 = .ok (.getfield 29, 3) := by decide +kernel
theorem dX12_sumOf_108 : decode cX12_sumOf 108 = .ok (.iload 8, 2) := by decide +kernel
theorem dX12_sumOf_110 : decode cX12_sumOf 110 = .ok (.iaload, 1) := by decide +kernel
theorem dX12_sumOf_111 : decode cX12_sumOf 111 = .ok (.iload_n 2, 1) := by decide +kernel
theorem dX12_sumOf_112 : decode cX12_sumOf 112 = .ok (.if_icmp .ne 13, 3) := by decide +kernel
theorem dX12_sumOf_115 : decode cX12_sumOf 115 = .ok (.lload 5, 2) := by decide +kernel
theorem dX12_sumOf_117 : decode cX12_sumOf 117 = .ok (.lload 9, 2) := by decide +kernel
theorem dX12_sumOf_119 : decode cX12_sumOf 119 = .ok (.ladd, 1) := by decide +kernel
theorem dX12_sumOf_120 : decode cX12_sumOf 120 = .ok (.lstore 5, 2) := by decide +kernel
theorem dX12_sumOf_122 : decode cX12_sumOf 122 = .ok (.goto 27, 3) := by decide +kernel
theorem dX12_sumOf_125 : decode cX12_sumOf 125 = .ok (.aload_n 0, 1) := by decide +kernel
theorem dX12_sumOf_126 : decode cX12_sumOf 126 = .ok (.getfield 56, 3) := by decide +kernel
theorem dX12_sumOf_129 : decode cX12_sumOf 129 = .ok (.iload 8, 2) := by decide +kernel
theorem dX12_sumOf_131 : decode cX12_sumOf 131 = .ok (.laload, 1) := by decide +kernel
theorem dX12_sumOf_132 : decode cX12_sumOf 132 = .ok (.lload 9, 2) := by decide +kernel
theorem dX12_sumOf_134 : decode cX12_sumOf 134 = .ok (.invokestatic 213, 3) := by decide +kernel
theorem dX12_sumOf_137 : decode cX12_sumOf 137 = .ok (.iload 4, 2) := by decide +kernel
theorem dX12_sumOf_139 : decode cX12_sumOf 139 = .ok (.if_icmp .gt 7, 3) := by decide +kernel
theorem dX12_sumOf_142 : decode cX12_sumOf 142 = .ok (.iconst 1, 1) := by decide +kernel
theorem dX12_sumOf_143 : decode cX12_sumOf 143 = .ok (.goto 4, 3) := by decide +kernel
theorem dX12_sumOf_146 : decode cX12_sumOf 146 = .ok (.iconst 0, 1) := by decide +kernel
theorem dX12_sumOf_147 : decode cX12_sumOf 147 = .ok (.istore 7, 2) := by decide +kernel
theorem dX12_sumOf_149 : decode cX12_sumOf 149 = .ok (.iinc 8 1, 3) := by decide +kernel
theorem dX12_sumOf_152 : decode cX12_sumOf 152 = .ok (.goto (-79), 3) := by decide +kernel
theorem dX12_sumOf_155 : decode cX12_sumOf 155 = .ok (.aload_n 0, 1) := by decide +kernel
theorem dX12_sumOf_156 : decode cX12_sumOf 156 = .ok (.iconst 0, 1) := by decide +kernel
theorem dX12_sumOf_157 : decode cX12_sumOf 157 = .ok (.putfield 198, 3) := by decide +kernel
theorem dX12_sumOf_160 : decode cX12_sumOf 160 = .ok (.iload 7, 2) := by decide +kernel
theorem dX12_sumOf_162 : decode cX12_sumOf 162 = .ok (.ifCond .eq 8, 3) := by decide +kernel
theorem dX12_sumOf_165 : decode cX12_sumOf 165 = .ok (.lload 5, 2) := by decide +kernel
theorem dX12_sumOf_167 : decode cX12_sumOf 167 = .ok (.goto 6, 3) := by decide +kernel
theorem dX12_sumOf_170 : decode cX12_sumOf 170 = .ok (.ldc2_w 220, 3) := by decide +kernel
theorem dX12_sumOf_173 : decode cX12_sumOf 173 = .ok (.lreturn, 1) := by decide +kernel
theorem dX12_goSites_0 : decode cX12_goSites 0 = .ok (.iload_n 1, 1) := by decide +kernel
theorem dX12_goSites_1 : decode cX12_goSites 1 = .ok (.iload_n 3, 1) := by decide +kernel
theorem dX12_goSites_2 : decode cX12_goSites 2 = .ok (.if_icmp .ne 72, 3) := by decide +kernel
theorem dX12_goSites_5 : decode cX12_goSites 5 = .ok (.aload_n 0, 1) := by decide +kernel
theorem dX12_goSites_6 : decode cX12_goSites 6 = .ok (.iload_n 3, 1) := by decide +kernel
theorem dX12_goSites_7 : decode cX12_goSites 7 = .ok (.iload 4, 2) := by decide +kernel
theorem dX12_goSites_9 : decode cX12_goSites 9 = .ok (.iload 5, 2) := by decide +kernel
theorem dX12_goSites_11 : decode cX12_goSites 11 = .ok (.iload 6, 2) := by decide +kernel
theorem dX12_goSites_13 : decode cX12_goSites 13 = .ok (.invokevirtual 222, 3) := by decide +kernel
theorem dX12_goSites_16 : decode cX12_goSites 16 = .ok (.lstore 7, 2) := by decide +kernel
theorem dX12_goSites_18 : decode cX12_goSites 18 = .ok (.lload 7, 2) := by decide +kernel
theorem dX12_goSites_20 : decode cX12_goSites 20 = .ok (.aload_n 0, 1) := by decide +kernel
theorem dX12_goSites_21 : decode cX12_goSites 21 = .ok (.getfield 226, 3) := by decide +kernel
theorem dX12_goSites_24 : decode cX12_goSites 24 = .ok (.lcmp, 1) := by decide +kernel
theorem dX12_goSites_25 : decode cX12_goSites 25 = .ok (.ifCond .le 48, 3) := by decide +kernel
theorem dX12_goSites_28 : decode cX12_goSites 28 = .ok (.aload_n 0, 1) := by decide +kernel
theorem dX12_goSites_29 : decode cX12_goSites 29 = .ok (.lload 7, 2) := by decide +kernel
theorem dX12_goSites_31 : decode cX12_goSites 31 = .ok (.putfield 226, 3) := by decide +kernel
theorem dX12_goSites_34 : decode cX12_goSites 34 = .ok (.aload_n 0, 1) := by decide +kernel
theorem dX12_goSites_35 : decode cX12_goSites 35 = .ok (.iload_n 3, 1) := by decide +kernel
theorem dX12_goSites_36 : decode cX12_goSites 36 = .ok (.putfield 230, 3) := by decide +kernel
theorem dX12_goSites_39 : decode cX12_goSites 39 = .ok (.iconst 0, 1) := by decide +kernel
theorem dX12_goSites_40 : decode cX12_goSites 40 = .ok (.istore 9, 2) := by decide +kernel
theorem dX12_goSites_42 : decode cX12_goSites 42 = .ok (.iload 9, 2) := by decide +kernel
theorem dX12_goSites_44 : decode cX12_goSites 44 = .ok (.iload_n 3, 1) := by decide +kernel
theorem dX12_goSites_45 : decode cX12_goSites 45 = .ok (.if_icmp .ge 28, 3) := by decide +kernel
theorem dX12_goSites_48 : decode cX12_goSites 48 = .ok (.aload_n 0, 1) := by decide +kernel
theorem dX12_goSites_49 : decode cX12_goSites 49 = .ok (.getfield 53, 3) := by decide +kernel
theorem dX12_goSites_52 : decode cX12_goSites 52 = .ok (.iload 9, 2) := by decide +kernel
theorem dX12_goSites_54 : decode cX12_goSites 54 = .ok (.aload_n 0, 1) := by decide +kernel
theorem dX12_goSites_55 : decode cX12_goSites 55 = .ok (.getfield 47, 3) := by decide +kernel
theorem dX12_goSites_58 : decode cX12_goSites 58 = .ok (.aload_n 0, 1) := by decide +kernel
theorem dX12_goSites_59 : decode cX12_goSites 59 = .ok (.getfield 50, 3) := by decide +kernel
theorem dX12_goSites_62 : decode cX12_goSites 62 = .ok (.iload 9, 2) := by decide +kernel
theorem dX12_goSites_64 : decode cX12_goSites 64 = .ok (.iaload, 1) := by decide +kernel
theorem dX12_goSites_65 : decode cX12_goSites 65 = .ok (.iaload, 1) := by decide +kernel
theorem dX12_goSites_66 : decode cX12_goSites 66 = .ok (.iastore, 1) := by decide +kernel
theorem dX12_goSites_67 : decode cX12_goSites 67 = .ok (.iinc 9 1, 3) := by decide +kernel
theorem dX12_goSites_70 : decode cX12_goSites 70 = .ok (.goto (-28), 3) := by decide +kernel
theorem dX12_goSites_73 : decode cX12_goSites 73 = .ok (.return_, 1) := by decide +kernel
theorem dX12_goSites_74 : decode cX12_goSites 74 = .ok (.iload_n 2, 1) := by decide +kernel
theorem dX12_goSites_75 : decode cX12_goSites 75 = .ok (.istore 7, 2) := by decide +kernel
theorem dX12_goSites_77 : decode cX12_goSites 77 = .ok (.iload 7, 2) := by decide +kernel
theorem dX12_goSites_79 : decode cX12_goSites 79 = .ok (.aload_n 0, 1) := by decide +kernel
theorem dX12_goSites_80 : decode cX12_goSites 80 = .ok (.getfield 217, 3) := by decide +kernel
theorem dX12_goSites_83 : decode cX12_goSites 83 = .ok (.if_icmp .ge 65, 3) := by decide +kernel
theorem dX12_goSites_86 : decode cX12_goSites 86 = .ok (.aload_n 0, 1) := by decide +kernel
theorem dX12_goSites_87 : decode cX12_goSites 87 = .ok (.aload_n 0, 1) := by decide +kernel
theorem dX12_goSites_88 : decode cX12_goSites 88 = .ok (.getfield 47, 3) := by decide +kernel
theorem dX12_goSites_91 : decode cX12_goSites 91 = .ok (.iload 7, 2) := by decide +kernel
theorem dX12_goSites_93 : decode cX12_goSites 93 = .ok (.iaload, 1) := by decide +kernel
theorem dX12_goSites_94 : decode cX12_goSites 94 = .ok (.invokevirtual 185, 3) := by decide +kernel
theorem dX12_goSites_97 : decode cX12_goSites 97 = .ok (.ifCond .ge 45, 3) := by decide +kernel
theorem dX12_goSites_100 : decode cX12_goSites 100 = .ok (.aload_n 0, 1) := by decide +kernel
theorem dX12_goSites_101 : decode cX12_goSites 101 = .ok (.aload_n 0, 1) := by decide +kernel
theorem dX12_goSites_102 : decode cX12_goSites 102 = .ok (.getfield 47, 3) := by decide +kernel
theorem dX12_goSites_105 : decode cX12_goSites 105 = .ok (.iload 7, 2) := by decide +kernel
theorem dX12_goSites_107 : decode cX12_goSites 107 = .ok (.iaload, 1) := by decide +kernel
theorem dX12_goSites_108 : decode cX12_goSites 108 = .ok (.iload 4, 2) := by decide +kernel
theorem dX12_goSites_110 : decode cX12_goSites 110 = .ok (.invokevirtual 188, 3) := by decide +kernel
theorem dX12_goSites_113 : decode cX12_goSites 113 = .ok (.ifCond .ne 29, 3) := by decide +kernel
theorem dX12_goSites_116 : decode cX12_goSites 116 = .ok (.aload_n 0, 1) := by decide +kernel
theorem dX12_goSites_117 : decode cX12_goSites 117 = .ok (.getfield 50, 3) := by decide +kernel
theorem dX12_goSites_120 : decode cX12_goSites 120 = .ok (.iload_n 1, 1) := by decide +kernel
theorem dX12_goSites_121 : decode cX12_goSites 121 = .ok (.iload 7, 2) := by decide +kernel
theorem dX12_goSites_123 : decode cX12_goSites 123 = .ok (.iastore, 1) := by decide +kernel
theorem dX12_goSites_124 : decode cX12_goSites 124 = .ok (.aload_n 0, 1) := by decide +kernel
theorem dX12_goSites_125 : decode cX12_goSites 125 = .ok (.iload_n 1, 1) := by decide +kernel
theorem dX12_goSites_126 : decode cX12_goSites 126 = .ok (.iconst 1, 1) := by decide +kernel
theorem dX12_goSites_127 : decode cX12_goSites 127 = .ok (.iadd, 1) := by decide +kernel
theorem dX12_goSites_128 : decode cX12_goSites 128 = .ok (.iload 7, 2) := by decide +kernel
theorem dX12_goSites_130 : decode cX12_goSites 130 = .ok (.iconst 1, 1) := by decide +kernel
theorem dX12_goSites_131 : decode cX12_goSites 131 = .ok (.iadd, 1) := by decide +kernel
theorem dX12_goSites_132 : decode cX12_goSites 132 = .ok (.iload_n 3, 1) := by decide +kernel
theorem dX12_goSites_133 : decode cX12_goSites 133 = .ok (.iload 4, 2) := by decide +kernel
theorem dX12_goSites_135 : decode cX12_goSites 135 = .ok (.iload 5, 2) := by decide +kernel
theorem dX12_goSites_137 : decode cX12_goSites 137 = .ok (.iload 6, 2) := by decide +kernel
theorem dX12_goSites_139 : decode cX12_goSites 139 = .ok (.invokevirtual 233, 3) := by decide +kernel
theorem dX12_goSites_142 : decode cX12_goSites 142 = .ok (.iinc 7 1, 3) := by decide +kernel
theorem dX12_goSites_145 : decode cX12_goSites 145 = .ok (.goto (-68), 3) := by decide +kernel
theorem dX12_goSites_148 : decode cX12_goSites 148 = .ok (.return_, 1) := by decide +kernel
theorem dX12_best_0 : decode cX12_best 0 = .ok (.iload_n 1, 1) := by decide +kernel
theorem dX12_best_1 : decode cX12_best 1 = .ok (.iconst 1, 1) := by decide +kernel
theorem dX12_best_2 : decode cX12_best 2 = .ok (.iconst 3, 1) := by decide +kernel
theorem dX12_best_3 : decode cX12_best 3 = .ok (.invokestatic 142, 3) := by decide +kernel
theorem dX12_best_6 : decode cX12_best 6 = .ok (.ifCond .eq 21, 3) := by decide +kernel
theorem dX12_best_9 : decode cX12_best 9 = .ok (.iload_n 2, 1) := by decide +kernel
theorem dX12_best_10 : decode cX12_best 10 = .ok (.invokestatic 182, 3) := by decide +kernel
theorem dX12_best_13 : decode cX12_best 13 = .ok (.ifCond .eq 14, 3) := by decide +kernel
theorem dX12_best_16 : decode cX12_best 16 = .ok (.iload_n 3, 1) := by decide +kernel
theorem dX12_best_17 : decode cX12_best 17 = .ok (.iconst 0, 1) := by decide +kernel
theorem dX12_best_18 : decode cX12_best 18 = .ok (.sipush 1000, 3) := by decide +kernel
theorem dX12_best_21 : decode cX12_best 21 = .ok (.invokestatic 142, 3) := by decide +kernel
theorem dX12_best_24 : decode cX12_best 24 = .ok (.ifCond .ne 5, 3) := by decide +kernel
theorem dX12_best_27 : decode cX12_best 27 = .ok (.iconst (-1), 1) := by decide +kernel
theorem dX12_best_28 : decode cX12_best 28 = .ok (.ireturn, 1) := by decide +kernel
theorem dX12_best_29 : decode cX12_best 29 = .ok (.aload_n 0, 1) := by decide +kernel
theorem dX12_best_30 : decode cX12_best 30 = .ok (.iconst 0, 1) := by decide +kernel
theorem dX12_best_31 : decode cX12_best 31 = .ok (.putfield 198, 3) := by decide +kernel
theorem dX12_best_34 : decode cX12_best 34 = .ok (.iconst 0, 1) := by decide +kernel
theorem dX12_best_35 : decode cX12_best 35 = .ok (.istore 4, 2) := by decide +kernel
theorem dX12_best_37 : decode cX12_best 37 = .ok (.iload 4, 2) := by decide +kernel
theorem dX12_best_39 : decode cX12_best 39 = .ok (.aload_n 0, 1) := by decide +kernel
theorem dX12_best_40 : decode cX12_best 40 = .ok (.getfield 139, 3) := by decide +kernel
theorem dX12_best_43 : decode cX12_best 43 = .ok (.if_icmp .ge 35, 3) := by decide +kernel
theorem dX12_best_46 : decode cX12_best 46 = .ok (.aload_n 0, 1) := by decide +kernel
theorem dX12_best_47 : decode cX12_best 47 = .ok (.getfield 56, 3) := by decide +kernel
theorem dX12_best_50 : decode cX12_best 50 = .ok (.iload 4, 2) := by decide +kernel
theorem dX12_best_52 : decode cX12_best 52 = .ok (.aload_n 0, 1) := by decide +kernel
theorem dX12_best_53 : decode cX12_best 53 = .ok (.iload 4, 2) := by decide +kernel
theorem dX12_best_55 : decode cX12_best 55 = .ok (.invokevirtual 176, 3) := by decide +kernel
theorem dX12_best_58 : decode cX12_best 58 = .ok (.ifCond .eq 12, 3) := by decide +kernel
theorem dX12_best_61 : decode cX12_best 61 = .ok (.aload_n 0, 1) := by decide +kernel
theorem dX12_best_62 : decode cX12_best 62 = .ok (.iload 4, 2) := by decide +kernel
theorem dX12_best_64 : decode cX12_best 64 = .ok (.invokevirtual 207, 3) := by decide +kernel
theorem dX12_best_67 : decode cX12_best 67 = .ok (.goto 4, 3) := by decide +kernel
theorem dX12_best_70 : decode cX12_best 70 = .ok (.lconst 0, 1) := by decide +kernel
theorem dX12_best_71 : decode cX12_best 71 = .ok (.lastore, 1) := by decide +kernel
theorem dX12_best_72 : decode cX12_best 72 = .ok (.iinc 4 1, 3) := by decide +kernel
theorem dX12_best_75 : decode cX12_best 75 = .ok (.goto (-38), 3) := by decide +kernel
theorem dX12_best_78 : decode cX12_best 78 = .ok (.aload_n 0, 1) := by decide +kernel
theorem dX12_best_79 : decode cX12_best 79 = .ok (.ldc2_w 220, 3) := by decide +kernel
theorem dX12_best_82 : decode cX12_best 82 = .ok (.putfield 226, 3) := by decide +kernel
theorem dX12_best_85 : decode cX12_best 85 = .ok (.aload_n 0, 1) := by decide +kernel
theorem dX12_best_86 : decode cX12_best 86 = .ok (.iconst 0, 1) := by decide +kernel
theorem dX12_best_87 : decode cX12_best 87 = .ok (.iconst 0, 1) := by decide +kernel
theorem dX12_best_88 : decode cX12_best 88 = .ok (.iload_n 1, 1) := by decide +kernel
theorem dX12_best_89 : decode cX12_best 89 = .ok (.iload_n 2, 1) := by decide +kernel
theorem dX12_best_90 : decode cX12_best 90 = .ok (.bipush 100, 2) := by decide +kernel
theorem dX12_best_92 : decode cX12_best 92 = .ok (.idiv, 1) := by decide +kernel
theorem dX12_best_93 : decode cX12_best 93 = .ok (.iload_n 2, 1) := by decide +kernel
theorem dX12_best_94 : decode cX12_best 94 = .ok (.bipush 100, 2) := by decide +kernel
theorem dX12_best_96 : decode cX12_best 96 = .ok (.irem, 1) := by decide +kernel
theorem dX12_best_97 : decode cX12_best 97 = .ok (.iload_n 3, 1) := by decide +kernel
theorem dX12_best_98 : decode cX12_best 98 = .ok (.invokevirtual 233, 3) := by decide +kernel
theorem dX12_best_101 : decode cX12_best 101 = .ok (.aload_n 0, 1) := by decide +kernel
theorem dX12_best_102 : decode cX12_best 102 = .ok (.getfield 226, 3) := by decide +kernel
theorem dX12_best_105 : decode cX12_best 105 = .ok (.lconst 0, 1) := by decide +kernel
theorem dX12_best_106 : decode cX12_best 106 = .ok (.lcmp, 1) := by decide +kernel
theorem dX12_best_107 : decode cX12_best 107 = .ok (.ifCond .ge 8, 3) := by decide +kernel
theorem dX12_best_110 : decode cX12_best 110 = .ok (.bipush (-4), 2) := by decide +kernel
theorem dX12_best_112 : decode cX12_best 112 = .ok (.goto 8, 3) := by decide +kernel
theorem dX12_best_115 : decode cX12_best 115 = .ok (.aload_n 0, 1) := by decide +kernel
theorem dX12_best_116 : decode cX12_best 116 = .ok (.getfield 226, 3) := by decide +kernel
theorem dX12_best_119 : decode cX12_best 119 = .ok (.l2i, 1) := by decide +kernel
theorem dX12_best_120 : decode cX12_best 120 = .ok (.ireturn, 1) := by decide +kernel
theorem dX12_found_0 : decode cX12_found 0 = .ok (.iload_n 1, 1) := by decide +kernel
theorem dX12_found_1 : decode cX12_found 1 = .ok (.ifCond .lt 20, 3) := by decide +kernel
theorem dX12_found_4 : decode cX12_found 4 = .ok (.iload_n 1, 1) := by decide +kernel
theorem dX12_found_5 : decode cX12_found 5 = .ok (.aload_n 0, 1) := by decide +kernel
theorem dX12_found_6 : decode cX12_found 6 = .ok (.getfield 230, 3) := by decide +kernel
theorem dX12_found_9 : decode cX12_found 9 = .ok (.if_icmp .ge 12, 3) := by decide +kernel
theorem dX12_found_12 : decode cX12_found 12 = .ok (.aload_n 0, 1) := by decide +kernel
theorem dX12_found_13 : decode cX12_found 13 = .ok (.getfield 53, 3) := by decide +kernel
theorem dX12_found_16 : decode cX12_found 16 = .ok (.iload_n 1, 1) := by decide +kernel
theorem dX12_found_17 : decode cX12_found 17 = .ok (.iaload, 1) := by decide +kernel
theorem dX12_found_18 : decode cX12_found 18 = .ok (.goto 4, 3) := by decide +kernel
theorem dX12_found_21 : decode cX12_found 21 = .ok (.iconst (-1), 1) := by decide +kernel
theorem dX12_found_22 : decode cX12_found 22 = .ok (.ireturn, 1) := by decide +kernel
theorem dX12_feed_0 : decode cX12_feed 0 = .ok (.iload_n 1, 1) := by decide +kernel
theorem dX12_feed_1 : decode cX12_feed 1 = .ok (.iconst 1, 1) := by decide +kernel
theorem dX12_feed_2 : decode cX12_feed 2 = .ok (.iconst 4, 1) := by decide +kernel
theorem dX12_feed_3 : decode cX12_feed 3 = .ok (.invokestatic 142, 3) := by decide +kernel
theorem dX12_feed_6 : decode cX12_feed 6 = .ok (.ifCond .ne 5, 3) := by decide +kernel
theorem dX12_feed_9 : decode cX12_feed 9 = .ok (.iconst (-1), 1) := by decide +kernel
theorem dX12_feed_10 : decode cX12_feed 10 = .ok (.ireturn, 1) := by decide +kernel
theorem dX12_feed_11 : decode cX12_feed 11 = .ok (.aload_n 0, 1) := by decide +kernel
theorem dX12_feed_12 : decode cX12_feed 12 = .ok (.getfield 237, 3) := by decide +kernel
theorem dX12_feed_15 : decode cX12_feed 15 = .ok (.iload_n 1, 1) := by decide +kernel
theorem dX12_feed_16 : decode cX12_feed 16 = .ok (.iadd, 1) := by decide +kernel
theorem dX12_feed_17 : decode cX12_feed 17 = .ok (.bipush 120, 2) := by decide +kernel
theorem dX12_feed_19 : decode cX12_feed 19 = .ok (.if_icmp .le 6, 3) := by decide +kernel
theorem dX12_feed_22 : decode cX12_feed 22 = .ok (.bipush (-2), 2) := by decide +kernel
theorem dX12_feed_24 : decode cX12_feed 24 = .ok (.ireturn, 1) := by decide +kernel
theorem dX12_feed_25 : decode cX12_feed 25 = .ok (.iconst 0, 1) := by decide +kernel
theorem dX12_feed_26 : decode cX12_feed 26 = .ok (.istore_n 3, 1) := by decide +kernel
theorem dX12_feed_27 : decode cX12_feed 27 = .ok (.iload_n 3, 1) := by decide +kernel
theorem dX12_feed_28 : decode cX12_feed 28 = .ok (.iload_n 1, 1) := by decide +kernel
theorem dX12_feed_29 : decode cX12_feed 29 = .ok (.if_icmp .ge 38, 3) := by decide +kernel
theorem dX12_feed_32 : decode cX12_feed 32 = .ok (.aload_n 0, 1) := by decide +kernel
theorem dX12_feed_33 : decode cX12_feed 33 = .ok (.getfield 60, 3) := by decide +kernel
theorem dX12_feed_36 : decode cX12_feed 36 = .ok (.aload_n 0, 1) := by decide +kernel
theorem dX12_feed_37 : decode cX12_feed 37 = .ok (.getfield 237, 3) := by decide +kernel
theorem dX12_feed_40 : decode cX12_feed 40 = .ok (.iload_n 2, 1) := by decide +kernel
theorem dX12_feed_41 : decode cX12_feed 41 = .ok (.bipush 8, 2) := by decide +kernel
theorem dX12_feed_43 : decode cX12_feed 43 = .ok (.iload_n 3, 1) := by decide +kernel
theorem dX12_feed_44 : decode cX12_feed 44 = .ok (.imul, 1) := by decide +kernel
theorem dX12_feed_45 : decode cX12_feed 45 = .ok (.ishr, 1) := by decide +kernel
theorem dX12_feed_46 : decode cX12_feed 46 = .ok (.sipush 255, 3) := by decide +kernel
theorem dX12_feed_49 : decode cX12_feed 49 = .ok (.iand, 1) := by decide +kernel
theorem dX12_feed_50 : decode cX12_feed 50 = .ok (.iastore, 1) := by decide +kernel
theorem dX12_feed_51 : decode cX12_feed 51 = .ok (.aload_n 0, 1) := by decide +kernel
theorem dX12_feed_52 : decode cX12_feed 52 = .ok (.dup, 1) := by decide +kernel
theorem dX12_feed_53 : decode cX12_feed 53 = .ok (.getfield 237, 3) := by decide +kernel
theorem dX12_feed_56 : decode cX12_feed 56 = .ok (.iconst 1, 1) := by decide +kernel
theorem dX12_feed_57 : decode cX12_feed 57 = .ok (.iadd, 1) := by decide +kernel
theorem dX12_feed_58 : decode cX12_feed 58 = .ok (.putfield 237, 3) := by decide +kernel
theorem dX12_feed_61 : decode cX12_feed 61 = .ok (.iinc 3 1, 3) := by decide +kernel
theorem dX12_feed_64 : decode cX12_feed 64 = .ok (.goto (-37), 3) := by decide +kernel
theorem dX12_feed_67 : decode cX12_feed 67 = .ok (.aload_n 0, 1) := by decide +kernel
theorem dX12_feed_68 : decode cX12_feed 68 = .ok (.getfield 237, 3) := by decide +kernel
theorem dX12_feed_71 : decode cX12_feed 71 = .ok (.ireturn, 1) := by decide +kernel
theorem dX12_byteAt_0 : decode cX12_byteAt 0 = .ok (.aload_n 0, 1) := by decide +kernel
theorem dX12_byteAt_1 : decode cX12_byteAt 1 = .ok (.getfield 240, 3) := by decide +kernel
theorem dX12_byteAt_4 : decode cX12_byteAt 4 = .ok (.aload_n 0, 1) := by decide +kernel
theorem dX12_byteAt_5 : decode cX12_byteAt 5 = .ok (.getfield 243, 3) := by decide +kernel
theorem dX12_byteAt_8 : decode cX12_byteAt 8 = .ok (.if_icmp .ge 39, 3) := by decide +kernel
theorem dX12_byteAt_11 : decode cX12_byteAt 11 = .ok (.aload_n 0, 1) := by decide +kernel
theorem dX12_byteAt_12 : decode cX12_byteAt 12 = .ok (.getfield 246, 3) := by decide +kernel
theorem dX12_byteAt_15 : decode cX12_byteAt 15 = .ok (.ifCond .ge 15, 3) := by decide +kernel
theorem dX12_byteAt_18 : decode cX12_byteAt 18 = .ok (.aload_n 0, 1) := by decide +kernel
theorem dX12_byteAt_19 : decode cX12_byteAt 19 = .ok (.getfield 60, 3) := by decide +kernel
theorem dX12_byteAt_22 : decode cX12_byteAt 22 = .ok (.aload_n 0, 1) := by decide +kernel
theorem dX12_byteAt_23 : decode cX12_byteAt 23 = .ok (.getfield 240, 3) := by decide +kernel
theorem dX12_byteAt_26 : decode cX12_byteAt 26 = .ok (.iaload, 1) := by decide +kernel
theorem dX12_byteAt_27 : decode cX12_byteAt 27 = .ok (.goto 21, 3) := by decide +kernel
theorem dX12_byteAt_30 : decode cX12_byteAt 30 = .ok (.aload_n 0, 1) := by decide +kernel
theorem dX12_byteAt_31 : decode cX12_byteAt 31 = .ok (.getfield 63, 3) := by decide +kernel
theorem dX12_byteAt_34 : decode cX12_byteAt 34 = .ok (.aload_n 0, 1) := by decide +kernel
theorem dX12_byteAt_35 : decode cX12_byteAt 35 = .ok (.getfield 246, 3) := by decide +kernel
theorem dX12_byteAt_38 : decode cX12_byteAt 38 = .ok (.aload_n 0, 1) := by decide +kernel
theorem dX12_byteAt_39 : decode cX12_byteAt 39 = .ok (.getfield 240, 3) := by decide +kernel
theorem dX12_byteAt_42 : decode cX12_byteAt 42 = .ok (.iadd, 1) := by decide +kernel
theorem dX12_byteAt_43 : decode cX12_byteAt 43 = .ok (.iaload, 1) := by decide +kernel
theorem dX12_byteAt_44 : decode cX12_byteAt 44 = .ok (.goto 4, 3) := by decide +kernel
theorem dX12_byteAt_47 : decode cX12_byteAt 47 = .ok (.iconst 0, 1) := by decide +kernel
theorem dX12_byteAt_48 : decode cX12_byteAt 48 = .ok (.ireturn, 1) := by decide +kernel
theorem dX12_wrong_0 : decode cX12_wrong 0 = .ok (.aload_n 0, 1) := by decide +kernel
theorem dX12_wrong_1 : decode cX12_wrong 1 = .ok (.aload_n 0, 1) := by decide +kernel
theorem dX12_wrong_2 : decode cX12_wrong 2 = .ok (.getfield 249, 3) := by decide +kernel
theorem dX12_wrong_5 : decode cX12_wrong 5 = .ok (.ifCond .ge 10, 3) := by decide +kernel
theorem dX12_wrong_8 : decode cX12_wrong 8 = .ok (.aload_n 0, 1) := by decide +kernel
theorem dX12_wrong_9 : decode cX12_wrong 9 = .ok (.getfield 240, 3) := by decide +kernel
theorem dX12_wrong_12 : decode cX12_wrong 12 = .ok (.goto 7, 3) := by decide +kernel
theorem dX12_wrong_15 : decode cX12_wrong 15 = .ok (.aload_n 0, 1) := by decide +kernel
theorem dX12_wrong_16 : decode cX12_wrong 16 = .ok (.getfield 249, 3) := by decide +kernel
theorem dX12_wrong_19 : decode cX12_wrong 19 = .ok (.putfield 249, 3) := by decide +kernel
theorem dX12_wrong_22 : decode cX12_wrong 22 = .ok (.iconst 0, 1) := by decide +kernel
theorem dX12_wrong_23 : decode cX12_wrong 23 = .ok (.ireturn, 1) := by decide +kernel
theorem dX12_sum_0 : decode cX12_sum 0 = .ok (.aload_n 0, 1) := by decide +kernel
theorem dX12_sum_1 : decode cX12_sum 1 = .ok (.invokevirtual 252, 3) := by decide +kernel
theorem dX12_sum_4 : decode cX12_sum 4 = .ok (.istore_n 1, 1) := by decide +kernel
theorem dX12_sum_5 : decode cX12_sum 5 = .ok (.aload_n 0, 1) := by decide +kernel
theorem dX12_sum_6 : decode cX12_sum 6 = .ok (.getfield 249, 3) := by decide +kernel
theorem dX12_sum_9 : decode cX12_sum 9 = .ok (.ifCond .ge 68, 3) := by decide +kernel
theorem dX12_sum_12 : decode cX12_sum 12 = .ok (.aload_n 0, 1) := by decide +kernel
theorem dX12_sum_13 : decode cX12_sum 13 = .ok (.invokevirtual 256, 3) := by decide +kernel
theorem dX12_sum_16 : decode cX12_sum 16 = .ok (.bipush 43, 2) := by decide +kernel
theorem dX12_sum_18 : decode cX12_sum 18 = .ok (.if_icmp .eq 12, 3) := by decide +kernel
theorem dX12_sum_21 : decode cX12_sum 21 = .ok (.aload_n 0, 1) := by decide +kernel
theorem dX12_sum_22 : decode cX12_sum 22 = .ok (.invokevirtual 256, 3) := by decide +kernel
theorem dX12_sum_25 : decode cX12_sum 25 = .ok (.bipush 45, 2) := by decide +kernel
theorem dX12_sum_27 : decode cX12_sum 27 = .ok (.if_icmp .ne 50, 3) := by decide +kernel
theorem dX12_sum_30 : decode cX12_sum 30 = .ok (.aload_n 0, 1) := by decide +kernel
theorem dX12_sum_31 : decode cX12_sum 31 = .ok (.invokevirtual 256, 3) := by decide +kernel
theorem dX12_sum_34 : decode cX12_sum 34 = .ok (.bipush 43, 2) := by decide +kernel
theorem dX12_sum_36 : decode cX12_sum 36 = .ok (.if_icmp .ne 7, 3) := by decide +kernel
theorem dX12_sum_39 : decode cX12_sum 39 = .ok (.iconst 1, 1) := by decide +kernel
theorem dX12_sum_40 : decode cX12_sum 40 = .ok (.goto 4, 3) := by decide +kernel
theorem dX12_sum_43 : decode cX12_sum 43 = .ok (.iconst 0, 1) := by decide +kernel
theorem dX12_sum_44 : decode cX12_sum 44 = .ok (.istore_n 2, 1) := by decide +kernel
theorem dX12_sum_45 : decode cX12_sum 45 = .ok (.aload_n 0, 1) := by decide +kernel
theorem dX12_sum_46 : decode cX12_sum 46 = .ok (.dup, 1) := by decide +kernel
theorem dX12_sum_47 : decode cX12_sum 47 = .ok (.getfield 240, 3) := by decide +kernel
theorem dX12_sum_50 : decode cX12_sum 50 = .ok (.iconst 1, 1) := by decide +kernel
theorem dX12_sum_51 : decode cX12_sum 51 = .ok (.iadd, 1) := by decide +kernel
theorem dX12_sum_52 : decode cX12_sum 52 = .ok (.putfield 240, 3) := by decide +kernel
theorem dX12_sum_55 : decode cX12_sum 55 = .ok (.aload_n 0, 1) := by decide +kernel
theorem dX12_sum_56 : decode cX12_sum 56 = .ok (.invokevirtual 252, 3) := by decide +kernel
theorem dX12_sum_59 : decode cX12_sum 59 = .ok (.istore_n 3, 1) := by decide +kernel
theorem dX12_sum_60 : decode cX12_sum 60 = .ok (.iload_n 2, 1) := by decide +kernel
theorem dX12_sum_61 : decode cX12_sum 61 = .ok (.ifCond .eq 9, 3) := by decide +kernel
theorem dX12_sum_64 : decode cX12_sum 64 = .ok (.iload_n 1, 1) := by decide +kernel
theorem dX12_sum_65 : decode cX12_sum 65 = .ok (.iload_n 3, 1) := by decide +kernel
theorem dX12_sum_66 : decode cX12_sum 66 = .ok (.iadd, 1) := by decide +kernel
theorem dX12_sum_67 : decode cX12_sum 67 = .ok (.goto 6, 3) := by decide +kernel
theorem dX12_sum_70 : decode cX12_sum 70 = .ok (.iload_n 1, 1) := by decide +kernel
theorem dX12_sum_71 : decode cX12_sum 71 = .ok (.iload_n 3, 1) := by decide +kernel
theorem dX12_sum_72 : decode cX12_sum 72 = .ok (.isub, 1) := by decide +kernel
theorem dX12_sum_73 : decode cX12_sum 73 = .ok (.istore_n 1, 1) := by decide +kernel
theorem dX12_sum_74 : decode cX12_sum 74 = .ok (.goto (-69), 3) := by decide +kernel
theorem dX12_sum_77 : decode cX12_sum 77 = .ok (.iload_n 1, 1) := by decide +kernel
theorem dX12_sum_78 : decode cX12_sum 78 = .ok (.ireturn, 1) := by decide +kernel
theorem dX12_product_0 : decode cX12_product 0 = .ok (.aload_n 0, 1) := by decide +kernel
theorem dX12_product_1 : decode cX12_product 1 = .ok (.invokevirtual 259, 3) := by decide +kernel
theorem dX12_product_4 : decode cX12_product 4 = .ok (.istore_n 1, 1) := by decide +kernel
theorem dX12_product_5 : decode cX12_product 5 = .ok (.aload_n 0, 1) := by decide +kernel
theorem dX12_product_6 : decode cX12_product 6 = .ok (.getfield 249, 3) := by decide +kernel
theorem dX12_product_9 : decode cX12_product 9 = .ok (.ifCond .ge 76, 3) := by decide +kernel
theorem dX12_product_12 : decode cX12_product 12 = .ok (.aload_n 0, 1) := by decide +kernel
theorem dX12_product_13 : decode cX12_product 13 = .ok (.invokevirtual 256, 3) := by decide +kernel
theorem dX12_product_16 : decode cX12_product 16 = .ok (.bipush 42, 2) := by decide +kernel
theorem dX12_product_18 : decode cX12_product 18 = .ok (.if_icmp .eq 12, 3) := by decide +kernel
theorem dX12_product_21 : decode cX12_product 21 = .ok (.aload_n 0, 1) := by decide +kernel
theorem dX12_product_22 : decode cX12_product 22 = .ok (.invokevirtual 256, 3) := by decide +kernel
theorem dX12_product_25 : decode cX12_product 25 = .ok (.bipush 47, 2) := by decide +kernel
theorem dX12_product_27 : decode cX12_product 27 = .ok (.if_icmp .ne 58, 3) := by decide +kernel
theorem dX12_product_30 : decode cX12_product 30 = .ok (.aload_n 0, 1) := by decide +kernel
theorem dX12_product_31 : decode cX12_product 31 = .ok (.invokevirtual 256, 3) := by decide +kernel
theorem dX12_product_34 : decode cX12_product 34 = .ok (.bipush 42, 2) := by decide +kernel
theorem dX12_product_36 : decode cX12_product 36 = .ok (.if_icmp .ne 7, 3) := by decide +kernel
theorem dX12_product_39 : decode cX12_product 39 = .ok (.iconst 1, 1) := by decide +kernel
theorem dX12_product_40 : decode cX12_product 40 = .ok (.goto 4, 3) := by decide +kernel
theorem dX12_product_43 : decode cX12_product 43 = .ok (.iconst 0, 1) := by decide +kernel
theorem dX12_product_44 : decode cX12_product 44 = .ok (.istore_n 2, 1) := by decide +kernel
theorem dX12_product_45 : decode cX12_product 45 = .ok (.aload_n 0, 1) := by decide +kernel
theorem dX12_product_46 : decode cX12_product 46 = .ok (.dup, 1) := by decide +kernel
theorem dX12_product_47 : decode cX12_product 47 = .ok (.getfield 240, 3) := by decide +kernel
theorem dX12_product_50 : decode cX12_product 50 = .ok (.iconst 1, 1) := by decide +kernel
theorem dX12_product_51 : decode cX12_product 51 = .ok (.iadd, 1) := by decide +kernel
theorem dX12_product_52 : decode cX12_product 52 = .ok (.putfield 240, 3) := by decide +kernel
theorem dX12_product_55 : decode cX12_product 55 = .ok (.aload_n 0, 1) := by decide +kernel
theorem dX12_product_56 : decode cX12_product 56 = .ok (.invokevirtual 259, 3) := by decide +kernel
theorem dX12_product_59 : decode cX12_product 59 = .ok (.istore_n 3, 1) := by decide +kernel
theorem dX12_product_60 : decode cX12_product 60 = .ok (.iload_n 2, 1) := by decide +kernel
theorem dX12_product_61 : decode cX12_product 61 = .ok (.ifCond .eq 9, 3) := by decide +kernel
theorem dX12_product_64 : decode cX12_product 64 = .ok (.iload_n 1, 1) := by decide +kernel
theorem dX12_product_65 : decode cX12_product 65 = .ok (.iload_n 3, 1) := by decide +kernel
theorem dX12_product_66 : decode cX12_product 66 = .ok (.imul, 1) := by decide +kernel
theorem dX12_product_67 : decode cX12_product 67 = .ok (.goto 14, 3) := by decide +kernel
theorem dX12_product_70 : decode cX12_product 70 = .ok (.iload_n 3, 1) := by decide +kernel
theorem dX12_product_71 : decode cX12_product 71 = .ok (.ifCond .ne 7, 3) := by decide +kernel
theorem dX12_product_74 : decode cX12_product 74 = .ok (.iconst 0, 1) := by decide +kernel
theorem dX12_product_75 : decode cX12_product 75 = .ok (.goto 6, 3) := by decide +kernel
theorem dX12_product_78 : decode cX12_product 78 = .ok (.iload_n 1, 1) := by decide +kernel
theorem dX12_product_79 : decode cX12_product 79 = .ok (.iload_n 3, 1) := by decide +kernel
theorem dX12_product_80 : decode cX12_product 80 = .ok (.idiv, 1) := by decide +kernel
theorem dX12_product_81 : decode cX12_product 81 = .ok (.istore_n 1, 1) := by decide +kernel
theorem dX12_product_82 : decode cX12_product 82 = .ok (.goto (-77), 3) := by decide +kernel
theorem dX12_product_85 : decode cX12_product 85 = .ok (.iload_n 1, 1) := by decide +kernel
theorem dX12_product_86 : decode cX12_product 86 = .ok (.ireturn, 1) := by decide +kernel
theorem dX12_one_0 : decode cX12_one 0 = .ok (.aload_n 0, 1) := by decide +kernel
theorem dX12_one_1 : decode cX12_one 1 = .ok (.getfield 249, 3) := by decide +kernel
theorem dX12_one_4 : decode cX12_one 4 = .ok (.ifCond .lt 5, 3) := by decide +kernel
theorem dX12_one_7 : decode cX12_one 7 = .ok (.iconst 0, 1) := by decide +kernel
theorem dX12_one_8 : decode cX12_one 8 = .ok (.ireturn, 1) := by decide +kernel
theorem dX12_one_9 : decode cX12_one 9 = .ok (.aload_n 0, 1) := by decide +kernel
theorem dX12_one_10 : decode cX12_one 10 = .ok (.invokevirtual 256, 3) := by decide +kernel
theorem dX12_one_13 : decode cX12_one 13 = .ok (.istore_n 1, 1) := by decide +kernel
theorem dX12_one_14 : decode cX12_one 14 = .ok (.iload_n 1, 1) := by decide +kernel
theorem dX12_one_15 : decode cX12_one 15 = .ok (.bipush 40, 2) := by decide +kernel
theorem dX12_one_17 : decode cX12_one 17 = .ok (.if_icmp .ne 85, 3) := by decide +kernel
theorem dX12_one_20 : decode cX12_one 20 = .ok (.aload_n 0, 1) := by decide +kernel
theorem dX12_one_21 : decode cX12_one 21 = .ok (.getfield 262, 3) := by decide +kernel
theorem dX12_one_24 : decode cX12_one 24 = .ok (.bipush 8, 2) := by decide +kernel
theorem dX12_one_26 : decode cX12_one 26 = .ok (.if_icmp .ne 8, 3) := by decide +kernel
theorem dX12_one_29 : decode cX12_one 29 = .ok (.aload_n 0, 1) := by decide +kernel
theorem dX12_one_30 : decode cX12_one 30 = .ok (.invokevirtual 265, 3) := by decide +kernel
theorem dX12_one_33 : decode cX12_one 33 = .ok (.ireturn, 1) := by decide +kernel
theorem dX12_one_34 : decode cX12_one 34 = .ok (.aload_n 0, 1) := by decide +kernel
theorem dX12_one_35 : decode cX12_one 35 = .ok (.dup, 1) := by decide +kernel
theorem dX12_one_36 : decode cX12_one 36 = .ok (.getfield 262, 3) := by decide +kernel
theorem dX12_one_39 : decode cX12_one 39 = .ok (.iconst 1, 1) := by decide +kernel
theorem dX12_one_40 : decode cX12_one 40 = .ok (.iadd, 1) := by decide +kernel
theorem dX12_one_41 : decode cX12_one 41 = .ok (.putfield 262, 3) := by decide +kernel
theorem dX12_one_44 : decode cX12_one 44 = .ok (.aload_n 0, 1) := by decide +kernel
theorem dX12_one_45 : decode cX12_one 45 = .ok (.dup, 1) := by decide +kernel
theorem dX12_one_46 : decode cX12_one 46 = .ok (.getfield 240, 3) := by decide +kernel
theorem dX12_one_49 : decode cX12_one 49 = .ok (.iconst 1, 1) := by decide +kernel
theorem dX12_one_50 : decode cX12_one 50 = .ok (.iadd, 1) := by decide +kernel
theorem dX12_one_51 : decode cX12_one 51 = .ok (.putfield 240, 3) := by decide +kernel
theorem dX12_one_54 : decode cX12_one 54 = .ok (.aload_n 0, 1) := by decide +kernel
theorem dX12_one_55 : decode cX12_one 55 = .ok (.invokevirtual 268, 3) := by decide +kernel
theorem dX12_one_58 : decode cX12_one 58 = .ok (.istore_n 2, 1) := by decide +kernel
theorem dX12_one_59 : decode cX12_one 59 = .ok (.aload_n 0, 1) := by decide +kernel
theorem dX12_one_60 : decode cX12_one 60 = .ok (.getfield 249, 3) := by decide +kernel
theorem dX12_one_63 : decode cX12_one 63 = .ok (.ifCond .ge 17, 3) := by decide +kernel
theorem dX12_one_66 : decode cX12_one 66 = .ok (.aload_n 0, 1) := by decide +kernel
theorem dX12_one_67 : decode cX12_one 67 = .ok (.invokevirtual 256, 3) := by decide +kernel
theorem dX12_one_70 : decode cX12_one 70 = .ok (.bipush 41, 2) := by decide +kernel
theorem dX12_one_72 : decode cX12_one 72 = .ok (.if_icmp .eq 8, 3) := by decide +kernel
theorem dX12_one_75 : decode cX12_one 75 = .ok (.aload_n 0, 1) := by decide +kernel
theorem dX12_one_76 : decode cX12_one 76 = .ok (.invokevirtual 265, 3) := by decide +kernel
theorem dX12_one_79 : decode cX12_one 79 = .ok (.ireturn, 1) := by decide +kernel
theorem dX12_one_80 : decode cX12_one 80 = .ok (.aload_n 0, 1) := by decide +kernel
theorem dX12_one_81 : decode cX12_one 81 = .ok (.dup, 1) := by decide +kernel
theorem dX12_one_82 : decode cX12_one 82 = .ok (.getfield 240, 3) := by decide +kernel
theorem dX12_one_85 : decode cX12_one 85 = .ok (.iconst 1, 1) := by decide +kernel
theorem dX12_one_86 : decode cX12_one 86 = .ok (.iadd, 1) := by decide +kernel
theorem dX12_one_87 : decode cX12_one 87 = .ok (.putfield 240, 3) := by decide +kernel
theorem dX12_one_90 : decode cX12_one 90 = .ok (.aload_n 0, 1) := by decide +kernel
theorem dX12_one_91 : decode cX12_one 91 = .ok (.dup, 1) := by decide +kernel
theorem dX12_one_92 : decode cX12_one 92 = .ok (.getfield 262, 3) := by decide +kernel
theorem dX12_one_95 : decode cX12_one 95 = .ok (.iconst 1, 1) := by decide +kernel
theorem dX12_one_96 : decode cX12_one 96 = .ok (.isub, 1) := by decide +kernel
theorem dX12_one_97 : decode cX12_one 97 = .ok (.putfield 262, 3) := by decide +kernel
theorem dX12_one_100 : decode cX12_one 100 = .ok (.iload_n 2, 1) := by decide +kernel
theorem dX12_one_101 : decode cX12_one 101 = .ok (.ireturn, 1) := by decide +kernel
theorem dX12_one_102 : decode cX12_one 102 = .ok (.iload_n 1, 1) := by decide +kernel
theorem dX12_one_103 : decode cX12_one 103 = .ok (.bipush 116, 2) := by decide +kernel
theorem dX12_one_105 : decode cX12_one 105 = .ok (.if_icmp .ne 7, 3) := by decide +kernel
theorem dX12_one_108 : decode cX12_one 108 = .ok (.iconst 0, 1) := by decide +kernel
theorem dX12_one_109 : decode cX12_one 109 = .ok (.goto 44, 3) := by decide +kernel
theorem dX12_one_112 : decode cX12_one 112 = .ok (.iload_n 1, 1) := by decide +kernel
theorem dX12_one_113 : decode cX12_one 113 = .ok (.bipush 102, 2) := by decide +kernel
theorem dX12_one_115 : decode cX12_one 115 = .ok (.if_icmp .ne 7, 3) := by decide +kernel
theorem dX12_one_118 : decode cX12_one 118 = .ok (.iconst 1, 1) := by decide +kernel
theorem dX12_one_119 : decode cX12_one 119 = .ok (.goto 34, 3) := by decide +kernel
theorem dX12_one_122 : decode cX12_one 122 = .ok (.iload_n 1, 1) := by decide +kernel
theorem dX12_one_123 : decode cX12_one 123 = .ok (.bipush 109, 2) := by decide +kernel
theorem dX12_one_125 : decode cX12_one 125 = .ok (.if_icmp .ne 7, 3) := by decide +kernel
theorem dX12_one_128 : decode cX12_one 128 = .ok (.iconst 2, 1) := by decide +kernel
theorem dX12_one_129 : decode cX12_one 129 = .ok (.goto 24, 3) := by decide +kernel
theorem dX12_one_132 : decode cX12_one 132 = .ok (.iload_n 1, 1) := by decide +kernel
theorem dX12_one_133 : decode cX12_one 133 = .ok (.bipush 121, 2) := by decide +kernel
theorem dX12_one_135 : decode cX12_one 135 = .ok (.if_icmp .ne 7, 3) := by decide +kernel
theorem dX12_one_138 : decode cX12_one 138 = .ok (.iconst 3, 1) := by decide +kernel
theorem dX12_one_139 : decode cX12_one 139 = .ok (.goto 14, 3) := by decide +kernel
theorem dX12_one_142 : decode cX12_one 142 = .ok (.iload_n 1, 1) := by decide +kernel
theorem dX12_one_143 : decode cX12_one 143 = .ok (.bipush 115, 2) := by decide +kernel
theorem dX12_one_145 : decode cX12_one 145 = .ok (.if_icmp .ne 7, 3) := by decide +kernel
theorem dX12_one_148 : decode cX12_one 148 = .ok (.iconst 4, 1) := by decide +kernel
theorem dX12_one_149 : decode cX12_one 149 = .ok (.goto 4, 3) := by decide +kernel
theorem dX12_one_152 : decode cX12_one 152 = .ok (.iconst (-1), 1) := by decide +kernel
theorem dX12_one_153 : decode cX12_one 153 = .ok (.istore_n 2, 1) := by decide +kernel
theorem dX12_one_154 : decode cX12_one 154 = .ok (.iload_n 2, 1) := by decide +kernel
theorem dX12_one_155 : decode cX12_one 155 = .ok (.ifCond .lt 20, 3) := by decide +kernel
theorem dX12_one_158 : decode cX12_one 158 = .ok (.aload_n 0, 1) := by decide +kernel
theorem dX12_one_159 : decode cX12_one 159 = .ok (.dup, 1) := by decide +kernel
theorem dX12_one_160 : decode cX12_one 160 = .ok (.getfield 240, 3) := by decide +kernel
theorem dX12_one_163 : decode cX12_one 163 = .ok (.iconst 1, 1) := by decide +kernel
theorem dX12_one_164 : decode cX12_one 164 = .ok (.iadd, 1) := by decide +kernel
theorem dX12_one_165 : decode cX12_one 165 = .ok (.putfield 240, 3) := by decide +kernel
theorem dX12_one_168 : decode cX12_one 168 = .ok (.aload_n 0, 1) := by decide +kernel
theorem dX12_one_169 : decode cX12_one 169 = .ok (.getfield 78, 3) := by decide +kernel
theorem dX12_one_172 : decode cX12_one 172 = .ok (.iload_n 2, 1) := by decide +kernel
theorem dX12_one_173 : decode cX12_one 173 = .ok (.iaload, 1) := by decide +kernel
theorem dX12_one_174 : decode cX12_one 174 = .ok (.ireturn, 1) := by decide +kernel
theorem dX12_one_175 : decode cX12_one 175 = .ok (.iload_n 1, 1) := by decide +kernel
theorem dX12_one_176 : decode cX12_one 176 = .ok (.bipush 48, 2) := by decide +kernel
theorem dX12_one_178 : decode cX12_one 178 = .ok (.if_icmp .lt 9, 3) := by decide +kernel
