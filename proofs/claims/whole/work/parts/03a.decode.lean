theorem dX0_init_0 : decode cX0_init 0 = .ok (.aload_n 0, 1) := by decide +kernel
theorem dX0_init_1 : decode cX0_init 1 = .ok (.invokespecial 3, 3) := by decide +kernel
theorem dX0_init_4 : decode cX0_init 4 = .ok (.aload_n 0, 1) := by decide +kernel
theorem dX0_init_5 : decode cX0_init 5 = .ok (.bipush 40, 2) := by decide +kernel
theorem dX0_init_7 : decode cX0_init 7 = .ok (.anewarray 9, 3) := by decide +kernel
theorem dX0_init_10 : decode cX0_init 10 = .ok (.putfield 11, 3) := by decide +kernel
theorem dX0_init_13 : decode cX0_init 13 = .ok (.aload_n 0, 1) := by decide +kernel
theorem dX0_init_14 : decode cX0_init 14 = .ok (.aload_n 1, 1) := by decide +kernel
theorem dX0_init_15 : decode cX0_init 15 = .ok (.putfield 17, 3) := by decide +kernel
theorem dX0_init_18 : decode cX0_init 18 = .ok (.return_, 1) := by decide +kernel
theorem dX0_shopAt_0 : decode cX0_shopAt 0 = .ok (.iload_n 1, 1) := by decide +kernel
theorem dX0_shopAt_1 : decode cX0_shopAt 1 = .ok (.ifCond .lt 29, 3) := by decide +kernel
theorem dX0_shopAt_4 : decode cX0_shopAt 4 = .ok (.iload_n 1, 1) := by decide +kernel
theorem dX0_shopAt_5 : decode cX0_shopAt 5 = .ok (.aload_n 0, 1) := by decide +kernel
theorem dX0_shopAt_6 : decode cX0_shopAt 6 = .ok (.getfield 21, 3) := by decide +kernel
theorem dX0_shopAt_9 : decode cX0_shopAt 9 = .ok (.if_icmp .ge 21, 3) := by decide +kernel
theorem dX0_shopAt_12 : decode cX0_shopAt 12 = .ok (.iload_n 1, 1) := by decide +kernel
theorem dX0_shopAt_13 : decode cX0_shopAt 13 = .ok (.aload_n 0, 1) := by decide +kernel
theorem dX0_shopAt_14 : decode cX0_shopAt 14 = .ok (.getfield 11, 3) := by decide +kernel
theorem dX0_shopAt_17 : decode cX0_shopAt 17 = .ok (.arraylength, 1) := by decide +kernel
theorem dX0_shopAt_18 : decode cX0_shopAt 18 = .ok (.if_icmp .ge 12, 3) := by decide +kernel
theorem dX0_shopAt_21 : decode cX0_shopAt 21 = .ok (.aload_n 0, 1) := by decide +kernel
theorem dX0_shopAt_22 : decode cX0_shopAt 22 = .ok (.getfield 11, 3) := by decide +kernel
theorem dX0_shopAt_25 : decode cX0_shopAt 25 = .ok (.iload_n 1, 1) := by decide +kernel
theorem dX0_shopAt_26 : decode cX0_shopAt 26 = .ok (.aaload, 1) := by decide +kernel
theorem dX0_shopAt_27 : decode cX0_shopAt 27 = .ok (.goto 4, 3) := by decide +kernel
theorem dX0_shopAt_30 : decode cX0_shopAt 30 = .ok (.aconst_null, 1) := by decide +kernel
theorem dX0_shopAt_31 : decode cX0_shopAt 31 = .ok (.areturn, 1) := by decide +kernel
theorem dX0_addShop_0 : decode cX0_addShop 0 = .ok (.aload_n 0, 1) := by decide +kernel
theorem dX0_addShop_1 : decode cX0_addShop 1 = .ok (.getfield 21, 3) := by decide +kernel
theorem dX0_addShop_4 : decode cX0_addShop 4 = .ok (.ifCond .lt 15, 3) := by decide +kernel
theorem dX0_addShop_7 : decode cX0_addShop 7 = .ok (.aload_n 0, 1) := by decide +kernel
theorem dX0_addShop_8 : decode cX0_addShop 8 = .ok (.getfield 21, 3) := by decide +kernel
theorem dX0_addShop_11 : decode cX0_addShop 11 = .ok (.aload_n 0, 1) := by decide +kernel
theorem dX0_addShop_12 : decode cX0_addShop 12 = .ok (.getfield 11, 3) := by decide +kernel
theorem dX0_addShop_15 : decode cX0_addShop 15 = .ok (.arraylength, 1) := by decide +kernel
theorem dX0_addShop_16 : decode cX0_addShop 16 = .ok (.if_icmp .lt 6, 3) := by decide +kernel
theorem dX0_addShop_19 : decode cX0_addShop 19 = .ok (.bipush (-2), 2) := by decide +kernel
theorem dX0_addShop_21 : decode cX0_addShop 21 = .ok (.ireturn, 1) := by decide +kernel
theorem dX0_addShop_22 : decode cX0_addShop 22 = .ok (.aload_n 0, 1) := by decide +kernel
theorem dX0_addShop_23 : decode cX0_addShop 23 = .ok (.getfield 11, 3) := by decide +kernel
theorem dX0_addShop_26 : decode cX0_addShop 26 = .ok (.aload_n 0, 1) := by decide +kernel
theorem dX0_addShop_27 : decode cX0_addShop 27 = .ok (.getfield 21, 3) := by decide +kernel
theorem dX0_addShop_30 : decode cX0_addShop 30 = .ok (.aload_n 1, 1) := by decide +kernel
theorem dX0_addShop_31 : decode cX0_addShop 31 = .ok (.aastore, 1) := by decide +kernel
theorem dX0_addShop_32 : decode cX0_addShop 32 = .ok (.aload_n 0, 1) := by decide +kernel
theorem dX0_addShop_33 : decode cX0_addShop 33 = .ok (.dup, 1) := by decide +kernel
theorem dX0_addShop_34 : decode cX0_addShop 34 = .ok (.getfield 21, 3) := by decide +kernel
theorem dX0_addShop_37 : decode cX0_addShop 37 = .ok (.iconst 1, 1) := by decide +kernel
theorem dX0_addShop_38 : decode cX0_addShop 38 = .ok (.iadd, 1) := by decide +kernel
theorem dX0_addShop_39 : decode cX0_addShop 39 = .ok (.putfield 21, 3) := by decide +kernel
theorem dX0_addShop_42 : decode cX0_addShop 42 = .ok (.aload_n 0, 1) := by decide +kernel
theorem dX0_addShop_43 : decode cX0_addShop 43 = .ok (.getfield 21, 3) := by decide +kernel
theorem dX0_addShop_46 : decode cX0_addShop 46 = .ok (.iconst 1, 1) := by decide +kernel
theorem dX0_addShop_47 : decode cX0_addShop 47 = .ok (.isub, 1) := by decide +kernel
theorem dX0_addShop_48 : decode cX0_addShop 48 = .ok (.ireturn, 1) := by decide +kernel
theorem dX0_isTaken_0 : decode cX0_isTaken 0 = .ok (.iconst 0, 1) := by decide +kernel
theorem dX0_isTaken_1 : decode cX0_isTaken 1 = .ok (.istore_n 2, 1) := by decide +kernel
theorem dX0_isTaken_2 : decode cX0_isTaken 2 = .ok (.iload_n 2, 1) := by decide +kernel
theorem dX0_isTaken_3 : decode cX0_isTaken 3 = .ok (.aload_n 0, 1) := by decide +kernel
theorem dX0_isTaken_4 : decode cX0_isTaken 4 = .ok (.getfield 21, 3) := by decide +kernel
theorem dX0_isTaken_7 : decode cX0_isTaken 7 = .ok (.if_icmp .ge 36, 3) := by decide +kernel
theorem dX0_isTaken_10 : decode cX0_isTaken 10 = .ok (.aload_n 0, 1) := by decide +kernel
theorem dX0_isTaken_11 : decode cX0_isTaken 11 = .ok (.iload_n 2, 1) := by decide +kernel
theorem dX0_isTaken_12 : decode cX0_isTaken 12 = .ok (.invokevirtual 25, 3) := by decide +kernel
theorem dX0_isTaken_15 : decode cX0_isTaken 15 = .ok (.astore_n 3, 1) := by decide +kernel
theorem dX0_isTaken_16 : decode cX0_isTaken 16 = .ok (.aload_n 3, 1) := by decide +kernel
theorem dX0_isTaken_17 : decode cX0_isTaken 17 = .ok (.ifnull 20, 3) := by decide +kernel
theorem dX0_isTaken_20 : decode cX0_isTaken 20 = .ok (.aload_n 3, 1) := by decide +kernel
theorem dX0_isTaken_21 : decode cX0_isTaken 21 = .ok (.invokevirtual 29, 3) := by decide +kernel
theorem dX0_isTaken_24 : decode cX0_isTaken 24 = .ok (.ifCond .eq 13, 3) := by decide +kernel
theorem dX0_isTaken_27 : decode cX0_isTaken 27 = .ok (.aload_n 3, 1) := by decide +kernel
theorem dX0_isTaken_28 : decode cX0_isTaken 28 = .ok (.getfield 33, 3) := by decide +kernel
theorem dX0_isTaken_31 : decode cX0_isTaken 31 = .ok (.iload_n 1, 1) := by decide +kernel
theorem dX0_isTaken_32 : decode cX0_isTaken 32 = .ok (.if_icmp .ne 5, 3) := by decide +kernel
theorem dX0_isTaken_35 : decode cX0_isTaken 35 = .ok (.iconst 1, 1) := by decide +kernel
theorem dX0_isTaken_36 : decode cX0_isTaken 36 = .ok (.ireturn, 1) := by decide +kernel
theorem dX0_isTaken_37 : decode cX0_isTaken 37 = .ok (.iinc 2 1, 3) := by decide +kernel
theorem dX0_isTaken_40 : decode cX0_isTaken 40 = .ok (.goto (-38), 3) := by decide +kernel
theorem dX0_isTaken_43 : decode cX0_isTaken 43 = .ok (.iconst 0, 1) := by decide +kernel
theorem dX0_isTaken_44 : decode cX0_isTaken 44 = .ok (.ireturn, 1) := by decide +kernel
theorem dX0_landHolder_0 : decode cX0_landHolder 0 = .ok (.iconst (-1), 1) := by decide +kernel
theorem dX0_landHolder_1 : decode cX0_landHolder 1 = .ok (.istore_n 2, 1) := by decide +kernel
theorem dX0_landHolder_2 : decode cX0_landHolder 2 = .ok (.iconst 0, 1) := by decide +kernel
theorem dX0_landHolder_3 : decode cX0_landHolder 3 = .ok (.istore_n 3, 1) := by decide +kernel
theorem dX0_landHolder_4 : decode cX0_landHolder 4 = .ok (.iconst 0, 1) := by decide +kernel
theorem dX0_landHolder_5 : decode cX0_landHolder 5 = .ok (.istore 4, 2) := by decide +kernel
theorem dX0_landHolder_7 : decode cX0_landHolder 7 = .ok (.iload 4, 2) := by decide +kernel
theorem dX0_landHolder_9 : decode cX0_landHolder 9 = .ok (.aload_n 0, 1) := by decide +kernel
theorem dX0_landHolder_10 : decode cX0_landHolder 10 = .ok (.getfield 21, 3) := by decide +kernel
theorem dX0_landHolder_13 : decode cX0_landHolder 13 = .ok (.if_icmp .ge 91, 3) := by decide +kernel
theorem dX0_landHolder_16 : decode cX0_landHolder 16 = .ok (.aload_n 0, 1) := by decide +kernel
theorem dX0_landHolder_17 : decode cX0_landHolder 17 = .ok (.iload 4, 2) := by decide +kernel
theorem dX0_landHolder_19 : decode cX0_landHolder 19 = .ok (.invokevirtual 25, 3) := by decide +kernel
theorem dX0_landHolder_22 : decode cX0_landHolder 22 = .ok (.astore 5, 2) := by decide +kernel
theorem dX0_landHolder_24 : decode cX0_landHolder 24 = .ok (.aload 5, 2) := by decide +kernel
theorem dX0_landHolder_26 : decode cX0_landHolder 26 = .ok (.ifnull 72, 3) := by decide +kernel
theorem dX0_landHolder_29 : decode cX0_landHolder 29 = .ok (.aload 5, 2) := by decide +kernel
theorem dX0_landHolder_31 : decode cX0_landHolder 31 = .ok (.invokevirtual 29, 3) := by decide +kernel
theorem dX0_landHolder_34 : decode cX0_landHolder 34 = .ok (.ifCond .eq 64, 3) := by decide +kernel
theorem dX0_landHolder_37 : decode cX0_landHolder 37 = .ok (.aload 5, 2) := by decide +kernel
theorem dX0_landHolder_39 : decode cX0_landHolder 39 = .ok (.getfield 36, 3) := by decide +kernel
theorem dX0_landHolder_42 : decode cX0_landHolder 42 = .ok (.ifCond .ne 6, 3) := by decide +kernel
theorem dX0_landHolder_45 : decode cX0_landHolder 45 = .ok (.goto 53, 3) := by decide +kernel
theorem dX0_landHolder_48 : decode cX0_landHolder 48 = .ok (.aload_n 0, 1) := by decide +kernel
theorem dX0_landHolder_49 : decode cX0_landHolder 49 = .ok (.getfield 17, 3) := by decide +kernel
theorem dX0_landHolder_52 : decode cX0_landHolder 52 = .ok (.iload_n 1, 1) := by decide +kernel
theorem dX0_landHolder_53 : decode cX0_landHolder 53 = .ok (.aload 5, 2) := by decide +kernel
theorem dX0_landHolder_55 : decode cX0_landHolder 55 = .ok (.getfield 33, 3) := by decide +kernel
theorem dX0_landHolder_58 : decode cX0_landHolder 58 = .ok (.invokevirtual 39, 3) := by decide +kernel
theorem dX0_landHolder_61 : decode cX0_landHolder 61 = .ok (.istore 6, 2) := by decide +kernel
theorem dX0_landHolder_63 : decode cX0_landHolder 63 = .ok (.iload 6, 2) := by decide +kernel
theorem dX0_landHolder_65 : decode cX0_landHolder 65 = .ok (.ifCond .lt 33, 3) := by decide +kernel
theorem dX0_landHolder_68 : decode cX0_landHolder 68 = .ok (.iload 6, 2) := by decide +kernel
theorem dX0_landHolder_70 : decode cX0_landHolder 70 = .ok (.aload 5, 2) := by decide +kernel
theorem dX0_landHolder_72 : decode cX0_landHolder 72 = .ok (.getfield 36, 3) := by decide +kernel
theorem dX0_landHolder_75 : decode cX0_landHolder 75 = .ok (.if_icmp .le 6, 3) := by decide +kernel
theorem dX0_landHolder_78 : decode cX0_landHolder 78 = .ok (.goto 20, 3) := by decide +kernel
theorem dX0_landHolder_81 : decode cX0_landHolder 81 = .ok (.iload_n 2, 1) := by decide +kernel
theorem dX0_landHolder_82 : decode cX0_landHolder 82 = .ok (.iconst (-1), 1) := by decide +kernel
theorem dX0_landHolder_83 : decode cX0_landHolder 83 = .ok (.if_icmp .eq 9, 3) := by decide +kernel
theorem dX0_landHolder_86 : decode cX0_landHolder 86 = .ok (.iload 6, 2) := by decide +kernel
theorem dX0_landHolder_88 : decode cX0_landHolder 88 = .ok (.iload_n 3, 1) := by decide +kernel
theorem dX0_landHolder_89 : decode cX0_landHolder 89 = .ok (.if_icmp .ge 9, 3) := by decide +kernel
theorem dX0_landHolder_92 : decode cX0_landHolder 92 = .ok (.iload 4, 2) := by decide +kernel
theorem dX0_landHolder_94 : decode cX0_landHolder 94 = .ok (.istore_n 2, 1) := by decide +kernel
theorem dX0_landHolder_95 : decode cX0_landHolder 95 = .ok (.iload 6, 2) := by decide +kernel
theorem dX0_landHolder_97 : decode cX0_landHolder 97 = .ok (.istore_n 3, 1) := by decide +kernel
theorem dX0_landHolder_98 : decode cX0_landHolder 98 = .ok (.iinc 4 1, 3) := by decide +kernel
theorem dX0_landHolder_101 : decode cX0_landHolder 101 = .ok (.goto (-94), 3) := by decide +kernel
theorem dX0_landHolder_104 : decode cX0_landHolder 104 = .ok (.iload_n 2, 1) := by decide +kernel
theorem dX0_landHolder_105 : decode cX0_landHolder 105 = .ok (.ireturn, 1) := by decide +kernel
theorem dX0_isBarred_0 : decode cX0_isBarred 0 = .ok (.aload_n 0, 1) := by decide +kernel
theorem dX0_isBarred_1 : decode cX0_isBarred 1 = .ok (.aload_n 0, 1) := by decide +kernel
theorem dX0_isBarred_2 : decode cX0_isBarred 2 = .ok (.iload_n 1, 1) := by decide +kernel
theorem dX0_isBarred_3 : decode cX0_isBarred 3 = .ok (.invokevirtual 45, 3) := by decide +kernel
theorem dX0_isBarred_6 : decode cX0_isBarred 6 = .ok (.invokevirtual 25, 3) := by decide +kernel
theorem dX0_isBarred_9 : decode cX0_isBarred 9 = .ok (.astore_n 3, 1) := by decide +kernel
theorem dX0_isBarred_10 : decode cX0_isBarred 10 = .ok (.aload_n 3, 1) := by decide +kernel
theorem dX0_isBarred_11 : decode cX0_isBarred 11 = .ok (.ifnull 15, 3) := by decide +kernel
theorem dX0_isBarred_14 : decode cX0_isBarred 14 = .ok (.aload_n 3, 1) := by decide +kernel
theorem dX0_isBarred_15 : decode cX0_isBarred 15 = .ok (.getfield 49, 3) := by decide +kernel
theorem dX0_isBarred_18 : decode cX0_isBarred 18 = .ok (.iload_n 2, 1) := by decide +kernel
theorem dX0_isBarred_19 : decode cX0_isBarred 19 = .ok (.if_icmp .eq 7, 3) := by decide +kernel
theorem dX0_isBarred_22 : decode cX0_isBarred 22 = .ok (.iconst 1, 1) := by decide +kernel
theorem dX0_isBarred_23 : decode cX0_isBarred 23 = .ok (.goto 4, 3) := by decide +kernel
theorem dX0_isBarred_26 : decode cX0_isBarred 26 = .ok (.iconst 0, 1) := by decide +kernel
theorem dX0_isBarred_27 : decode cX0_isBarred 27 = .ok (.ireturn, 1) := by decide +kernel
theorem dX0_landSize_0 : decode cX0_landSize 0 = .ok (.iconst 0, 1) := by decide +kernel
theorem dX0_landSize_1 : decode cX0_landSize 1 = .ok (.istore_n 2, 1) := by decide +kernel
theorem dX0_landSize_2 : decode cX0_landSize 2 = .ok (.iconst 0, 1) := by decide +kernel
theorem dX0_landSize_3 : decode cX0_landSize 3 = .ok (.istore_n 3, 1) := by decide +kernel
theorem dX0_landSize_4 : decode cX0_landSize 4 = .ok (.iload_n 3, 1) := by decide +kernel
theorem dX0_landSize_5 : decode cX0_landSize 5 = .ok (.aload_n 0, 1) := by decide +kernel
theorem dX0_landSize_6 : decode cX0_landSize 6 = .ok (.getfield 17, 3) := by decide +kernel
theorem dX0_landSize_9 : decode cX0_landSize 9 = .ok (.getfield 52, 3) := by decide +kernel
theorem dX0_landSize_12 : decode cX0_landSize 12 = .ok (.if_icmp .ge 21, 3) := by decide +kernel
theorem dX0_landSize_15 : decode cX0_landSize 15 = .ok (.aload_n 0, 1) := by decide +kernel
theorem dX0_landSize_16 : decode cX0_landSize 16 = .ok (.iload_n 3, 1) := by decide +kernel
theorem dX0_landSize_17 : decode cX0_landSize 17 = .ok (.invokevirtual 45, 3) := by decide +kernel
theorem dX0_landSize_20 : decode cX0_landSize 20 = .ok (.iload_n 1, 1) := by decide +kernel
theorem dX0_landSize_21 : decode cX0_landSize 21 = .ok (.if_icmp .ne 6, 3) := by decide +kernel
theorem dX0_landSize_24 : decode cX0_landSize 24 = .ok (.iinc 2 1, 3) := by decide +kernel
theorem dX0_landSize_27 : decode cX0_landSize 27 = .ok (.iinc 3 1, 3) := by decide +kernel
theorem dX0_landSize_30 : decode cX0_landSize 30 = .ok (.goto (-26), 3) := by decide +kernel
theorem dX0_landSize_33 : decode cX0_landSize 33 = .ok (.iload_n 2, 1) := by decide +kernel
theorem dX0_landSize_34 : decode cX0_landSize 34 = .ok (.ireturn, 1) := by decide +kernel
theorem dX0_openCount_0 : decode cX0_openCount 0 = .ok (.iconst 0, 1) := by decide +kernel
theorem dX0_openCount_1 : decode cX0_openCount 1 = .ok (.istore_n 1, 1) := by decide +kernel
theorem dX0_openCount_2 : decode cX0_openCount 2 = .ok (.iconst 0, 1) := by decide +kernel
theorem dX0_openCount_3 : decode cX0_openCount 3 = .ok (.istore_n 2, 1) := by decide +kernel
theorem dX0_openCount_4 : decode cX0_openCount 4 = .ok (.iload_n 2, 1) := by decide +kernel
theorem dX0_openCount_5 : decode cX0_openCount 5 = .ok (.aload_n 0, 1) := by decide +kernel
theorem dX0_openCount_6 : decode cX0_openCount 6 = .ok (.getfield 21, 3) := by decide +kernel
theorem dX0_openCount_9 : decode cX0_openCount 9 = .ok (.if_icmp .ge 29, 3) := by decide +kernel
theorem dX0_openCount_12 : decode cX0_openCount 12 = .ok (.aload_n 0, 1) := by decide +kernel
theorem dX0_openCount_13 : decode cX0_openCount 13 = .ok (.iload_n 2, 1) := by decide +kernel
theorem dX0_openCount_14 : decode cX0_openCount 14 = .ok (.invokevirtual 25, 3) := by decide +kernel
theorem dX0_openCount_17 : decode cX0_openCount 17 = .ok (.astore_n 3, 1) := by decide +kernel
theorem dX0_openCount_18 : decode cX0_openCount 18 = .ok (.aload_n 3, 1) := by decide +kernel
theorem dX0_openCount_19 : decode cX0_openCount 19 = .ok (.ifnull 13, 3) := by decide +kernel
theorem dX0_openCount_22 : decode cX0_openCount 22 = .ok (.aload_n 3, 1) := by decide +kernel
theorem dX0_openCount_23 : decode cX0_openCount 23 = .ok (.invokevirtual 29, 3) := by decide +kernel
theorem dX0_openCount_26 : decode cX0_openCount 26 = .ok (.ifCond .eq 6, 3) := by decide +kernel
theorem dX0_openCount_29 : decode cX0_openCount 29 = .ok (.iinc 1 1, 3) := by decide +kernel
theorem dX0_openCount_32 : decode cX0_openCount 32 = .ok (.iinc 2 1, 3) := by decide +kernel
theorem dX0_openCount_35 : decode cX0_openCount 35 = .ok (.goto (-31), 3) := by decide +kernel
theorem dX0_openCount_38 : decode cX0_openCount 38 = .ok (.iload_n 1, 1) := by decide +kernel
theorem dX0_openCount_39 : decode cX0_openCount 39 = .ok (.ireturn, 1) := by decide +kernel
theorem dX0_openOn_0 : decode cX0_openOn 0 = .ok (.iconst 0, 1) := by decide +kernel
theorem dX0_openOn_1 : decode cX0_openOn 1 = .ok (.istore_n 3, 1) := by decide +kernel
theorem dX0_openOn_2 : decode cX0_openOn 2 = .ok (.iconst 0, 1) := by decide +kernel
theorem dX0_openOn_3 : decode cX0_openOn 3 = .ok (.istore 4, 2) := by decide +kernel
theorem dX0_openOn_5 : decode cX0_openOn 5 = .ok (.iload 4, 2) := by decide +kernel
theorem dX0_openOn_7 : decode cX0_openOn 7 = .ok (.aload_n 0, 1) := by decide +kernel
theorem dX0_openOn_8 : decode cX0_openOn 8 = .ok (.getfield 21, 3) := by decide +kernel
theorem dX0_openOn_11 : decode cX0_openOn 11 = .ok (.if_icmp .ge 43, 3) := by decide +kernel
theorem dX0_openOn_14 : decode cX0_openOn 14 = .ok (.aload_n 0, 1) := by decide +kernel
theorem dX0_openOn_15 : decode cX0_openOn 15 = .ok (.iload 4, 2) := by decide +kernel
theorem dX0_openOn_17 : decode cX0_openOn 17 = .ok (.invokevirtual 25, 3) := by decide +kernel
theorem dX0_openOn_20 : decode cX0_openOn 20 = .ok (.astore 5, 2) := by decide +kernel
theorem dX0_openOn_22 : decode cX0_openOn 22 = .ok (.aload 5, 2) := by decide +kernel
theorem dX0_openOn_24 : decode cX0_openOn 24 = .ok (.ifnull 24, 3) := by decide +kernel
theorem dX0_openOn_27 : decode cX0_openOn 27 = .ok (.aload 5, 2) := by decide +kernel
theorem dX0_openOn_29 : decode cX0_openOn 29 = .ok (.getfield 49, 3) := by decide +kernel
theorem dX0_openOn_32 : decode cX0_openOn 32 = .ok (.iload_n 1, 1) := by decide +kernel
theorem dX0_openOn_33 : decode cX0_openOn 33 = .ok (.if_icmp .ne 15, 3) := by decide +kernel
theorem dX0_openOn_36 : decode cX0_openOn 36 = .ok (.aload 5, 2) := by decide +kernel
theorem dX0_openOn_38 : decode cX0_openOn 38 = .ok (.iload_n 2, 1) := by decide +kernel
theorem dX0_openOn_39 : decode cX0_openOn 39 = .ok (.invokevirtual 55, 3) := by decide +kernel
theorem dX0_openOn_42 : decode cX0_openOn 42 = .ok (.ifCond .eq 6, 3) := by decide +kernel
theorem dX0_openOn_45 : decode cX0_openOn 45 = .ok (.iinc 3 1, 3) := by decide +kernel
theorem dX0_openOn_48 : decode cX0_openOn 48 = .ok (.iinc 4 1, 3) := by decide +kernel
theorem dX0_openOn_51 : decode cX0_openOn 51 = .ok (.goto (-46), 3) := by decide +kernel
theorem dX0_openOn_54 : decode cX0_openOn 54 = .ok (.iload_n 3, 1) := by decide +kernel
theorem dX0_openOn_55 : decode cX0_openOn 55 = .ok (.ireturn, 1) := by decide +kernel
theorem dX0_runningNotices_0 : decode cX0_runningNotices 0 = .ok (.iconst 0, 1) := by decide +kernel
theorem dX0_runningNotices_1 : decode cX0_runningNotices 1 = .ok (.istore_n 1, 1) := by decide +kernel
theorem dX0_runningNotices_2 : decode cX0_runningNotices 2 = .ok (.iconst 0, 1) := by decide +kernel
theorem dX0_runningNotices_3 : decode cX0_runningNotices 3 = .ok (.istore_n 2, 1) := by decide +kernel
theorem dX0_runningNotices_4 : decode cX0_runningNotices 4 = .ok (.iload_n 2, 1) := by decide +kernel
theorem dX0_runningNotices_5 : decode cX0_runningNotices 5 = .ok (.aload_n 0, 1) := by decide +kernel
theorem dX0_runningNotices_6 : decode cX0_runningNotices 6 = .ok (.getfield 21, 3) := by decide +kernel
theorem dX0_runningNotices_9 : decode cX0_runningNotices 9 = .ok (.if_icmp .ge 29, 3) := by decide +kernel
theorem dX0_runningNotices_12 : decode cX0_runningNotices 12 = .ok (.aload_n 0, 1) := by decide +kernel
theorem dX0_runningNotices_13 : decode cX0_runningNotices 13 = .ok (.iload_n 2, 1) := by decide +kernel
theorem dX0_runningNotices_14 : decode cX0_runningNotices 14 = .ok (.invokevirtual 25, 3) := by decide +kernel
theorem dX0_runningNotices_17 : decode cX0_runningNotices 17 = .ok (.astore_n 3, 1) := by decide +kernel
theorem dX0_runningNotices_18 : decode cX0_runningNotices 18 = .ok (.aload_n 3, 1) := by decide +kernel
theorem dX0_runningNotices_19 : decode cX0_runningNotices 19 = .ok (.ifnull 13, 3) := by decide +kernel
theorem dX0_runningNotices_22 : decode cX0_runningNotices 22 = .ok (.aload_n 3, 1) := by decide +kernel
theorem dX0_runningNotices_23 : decode cX0_runningNotices 23 = .ok (.invokevirtual 59, 3) := by decide +kernel
theorem dX0_runningNotices_26 : decode cX0_runningNotices 26 = .ok (.ifCond .eq 6, 3) := by decide +kernel
theorem dX0_runningNotices_29 : decode cX0_runningNotices 29 = .ok (.iinc 1 1, 3) := by decide +kernel
theorem dX0_runningNotices_32 : decode cX0_runningNotices 32 = .ok (.iinc 2 1, 3) := by decide +kernel
theorem dX0_runningNotices_35 : decode cX0_runningNotices 35 = .ok (.goto (-31), 3) := by decide +kernel
theorem dX0_runningNotices_38 : decode cX0_runningNotices 38 = .ok (.iload_n 1, 1) := by decide +kernel
theorem dX0_runningNotices_39 : decode cX0_runningNotices 39 = .ok (.ireturn, 1) := by decide +kernel
theorem dX0_lapseNotices_0 : decode cX0_lapseNotices 0 = .ok (.iconst 0, 1) := by decide +kernel
theorem dX0_lapseNotices_1 : decode cX0_lapseNotices 1 = .ok (.istore_n 2, 1) := by decide +kernel
theorem dX0_lapseNotices_2 : decode cX0_lapseNotices 2 = .ok (.iload_n 2, 1) := by decide +kernel
theorem dX0_lapseNotices_3 : decode cX0_lapseNotices 3 = .ok (.aload_n 0, 1) := by decide +kernel
theorem dX0_lapseNotices_4 : decode cX0_lapseNotices 4 = .ok (.getfield 21, 3) := by decide +kernel
theorem dX0_lapseNotices_7 : decode cX0_lapseNotices 7 = .ok (.if_icmp .ge 43, 3) := by decide +kernel
theorem dX0_lapseNotices_10 : decode cX0_lapseNotices 10 = .ok (.aload_n 0, 1) := by decide +kernel
theorem dX0_lapseNotices_11 : decode cX0_lapseNotices 11 = .ok (.iload_n 2, 1) := by decide +kernel
theorem dX0_lapseNotices_12 : decode cX0_lapseNotices 12 = .ok (.invokevirtual 25, 3) := by decide +kernel
theorem dX0_lapseNotices_15 : decode cX0_lapseNotices 15 = .ok (.astore_n 3, 1) := by decide +kernel
theorem dX0_lapseNotices_16 : decode cX0_lapseNotices 16 = .ok (.aload_n 3, 1) := by decide +kernel
theorem dX0_lapseNotices_17 : decode cX0_lapseNotices 17 = .ok (.ifnull 27, 3) := by decide +kernel
theorem dX0_lapseNotices_20 : decode cX0_lapseNotices 20 = .ok (.aload_n 3, 1) := by decide +kernel
theorem dX0_lapseNotices_21 : decode cX0_lapseNotices 21 = .ok (.invokevirtual 59, 3) := by decide +kernel
theorem dX0_lapseNotices_24 : decode cX0_lapseNotices 24 = .ok (.ifCond .ne 6, 3) := by decide +kernel
theorem dX0_lapseNotices_27 : decode cX0_lapseNotices 27 = .ok (.goto 17, 3) := by decide +kernel
theorem dX0_lapseNotices_30 : decode cX0_lapseNotices 30 = .ok (.iload_n 1, 1) := by decide +kernel
theorem dX0_lapseNotices_31 : decode cX0_lapseNotices 31 = .ok (.aload_n 3, 1) := by decide +kernel
theorem dX0_lapseNotices_32 : decode cX0_lapseNotices 32 = .ok (.getfield 62, 3) := by decide +kernel
theorem dX0_lapseNotices_35 : decode cX0_lapseNotices 35 = .ok (.if_icmp .le 9, 3) := by decide +kernel
theorem dX0_lapseNotices_38 : decode cX0_lapseNotices 38 = .ok (.aload_n 3, 1) := by decide +kernel
theorem dX0_lapseNotices_39 : decode cX0_lapseNotices 39 = .ok (.iload_n 1, 1) := by decide +kernel
theorem dX0_lapseNotices_40 : decode cX0_lapseNotices 40 = .ok (.iconst 2, 1) := by decide +kernel
theorem dX0_lapseNotices_41 : decode cX0_lapseNotices 41 = .ok (.invokevirtual 65, 3) := by decide +kernel
theorem dX0_lapseNotices_44 : decode cX0_lapseNotices 44 = .ok (.iinc 2 1, 3) := by decide +kernel
theorem dX0_lapseNotices_47 : decode cX0_lapseNotices 47 = .ok (.goto (-45), 3) := by decide +kernel
theorem dX0_lapseNotices_50 : decode cX0_lapseNotices 50 = .ok (.return_, 1) := by decide +kernel
theorem dX1_init_0 : decode cX1_init 0 = .ok (.aload_n 0, 1) := by decide +kernel
theorem dX1_init_1 : decode cX1_init 1 = .ok (.invokespecial 3, 3) := by decide +kernel
theorem dX1_init_4 : decode cX1_init 4 = .ok (.aload_n 0, 1) := by decide +kernel
theorem dX1_init_5 : decode cX1_init 5 = .ok (.bipush 40, 2) := by decide +kernel
theorem dX1_init_7 : decode cX1_init 7 = .ok (.newarray .int, 2) := by decide +kernel
theorem dX1_init_9 : decode cX1_init 9 = .ok (.putfield 9, 3) := by decide +kernel
theorem dX1_init_12 : decode cX1_init 12 = .ok (.aload_n 0, 1) := by decide +kernel
theorem dX1_init_13 : decode cX1_init 13 = .ok (.aload_n 1, 1) := by decide +kernel
theorem dX1_init_14 : decode cX1_init 14 = .ok (.putfield 15, 3) := by decide +kernel
theorem dX1_init_17 : decode cX1_init 17 = .ok (.return_, 1) := by decide +kernel
theorem dX1_partOut_0 : decode cX1_partOut 0 = .ok (.aload_n 0, 1) := by decide +kernel
theorem dX1_partOut_1 : decode cX1_partOut 1 = .ok (.invokevirtual 19, 3) := by decide +kernel
theorem dX1_partOut_4 : decode cX1_partOut 4 = .ok (.istore_n 2, 1) := by decide +kernel
theorem dX1_partOut_5 : decode cX1_partOut 5 = .ok (.iload_n 1, 1) := by decide +kernel
theorem dX1_partOut_6 : decode cX1_partOut 6 = .ok (.aload_n 0, 1) := by decide +kernel
theorem dX1_partOut_7 : decode cX1_partOut 7 = .ok (.getfield 23, 3) := by decide +kernel
theorem dX1_partOut_10 : decode cX1_partOut 10 = .ok (.if_icmp .gt 7, 3) := by decide +kernel
theorem dX1_partOut_13 : decode cX1_partOut 13 = .ok (.iload_n 2, 1) := by decide +kernel
theorem dX1_partOut_14 : decode cX1_partOut 14 = .ok (.ifCond .gt 6, 3) := by decide +kernel
theorem dX1_partOut_17 : decode cX1_partOut 17 = .ok (.bipush (-3), 2) := by decide +kernel
theorem dX1_partOut_19 : decode cX1_partOut 19 = .ok (.ireturn, 1) := by decide +kernel
theorem dX1_partOut_20 : decode cX1_partOut 20 = .ok (.iload_n 1, 1) := by decide +kernel
theorem dX1_partOut_21 : decode cX1_partOut 21 = .ok (.aload_n 0, 1) := by decide +kernel
theorem dX1_partOut_22 : decode cX1_partOut 22 = .ok (.iload_n 1, 1) := by decide +kernel
theorem dX1_partOut_23 : decode cX1_partOut 23 = .ok (.iload_n 2, 1) := by decide +kernel
theorem dX1_partOut_24 : decode cX1_partOut 24 = .ok (.invokevirtual 27, 3) := by decide +kernel
theorem dX1_partOut_27 : decode cX1_partOut 27 = .ok (.isub, 1) := by decide +kernel
theorem dX1_partOut_28 : decode cX1_partOut 28 = .ok (.istore_n 3, 1) := by decide +kernel
theorem dX1_partOut_29 : decode cX1_partOut 29 = .ok (.iconst 0, 1) := by decide +kernel
theorem dX1_partOut_30 : decode cX1_partOut 30 = .ok (.istore 4, 2) := by decide +kernel
theorem dX1_partOut_32 : decode cX1_partOut 32 = .ok (.iload 4, 2) := by decide +kernel
theorem dX1_partOut_34 : decode cX1_partOut 34 = .ok (.bipush 40, 2) := by decide +kernel
theorem dX1_partOut_36 : decode cX1_partOut 36 = .ok (.if_icmp .ge 20, 3) := by decide +kernel
theorem dX1_partOut_39 : decode cX1_partOut 39 = .ok (.iload_n 3, 1) := by decide +kernel
theorem dX1_partOut_40 : decode cX1_partOut 40 = .ok (.ifCond .le 16, 3) := by decide +kernel
theorem dX1_partOut_43 : decode cX1_partOut 43 = .ok (.aload_n 0, 1) := by decide +kernel
theorem dX1_partOut_44 : decode cX1_partOut 44 = .ok (.invokevirtual 31, 3) := by decide +kernel
theorem dX1_partOut_47 : decode cX1_partOut 47 = .ok (.iinc 3 (-1), 3) := by decide +kernel
theorem dX1_partOut_50 : decode cX1_partOut 50 = .ok (.iinc 4 1, 3) := by decide +kernel
theorem dX1_partOut_53 : decode cX1_partOut 53 = .ok (.goto (-21), 3) := by decide +kernel
theorem dX1_partOut_56 : decode cX1_partOut 56 = .ok (.aload_n 0, 1) := by decide +kernel
theorem dX1_partOut_57 : decode cX1_partOut 57 = .ok (.dup, 1) := by decide +kernel
theorem dX1_partOut_58 : decode cX1_partOut 58 = .ok (.getfield 23, 3) := by decide +kernel
theorem dX1_partOut_61 : decode cX1_partOut 61 = .ok (.iload_n 1, 1) := by decide +kernel
theorem dX1_partOut_62 : decode cX1_partOut 62 = .ok (.isub, 1) := by decide +kernel
theorem dX1_partOut_63 : decode cX1_partOut 63 = .ok (.putfield 23, 3) := by decide +kernel
theorem dX1_partOut_66 : decode cX1_partOut 66 = .ok (.aload_n 0, 1) := by decide +kernel
theorem dX1_partOut_67 : decode cX1_partOut 67 = .ok (.getfield 23, 3) := by decide +kernel
theorem dX1_partOut_70 : decode cX1_partOut 70 = .ok (.ireturn, 1) := by decide +kernel
theorem dX1_allGains_0 : decode cX1_allGains 0 = .ok (.iconst 0, 1) := by decide +kernel
theorem dX1_allGains_1 : decode cX1_allGains 1 = .ok (.istore_n 1, 1) := by decide +kernel
theorem dX1_allGains_2 : decode cX1_allGains 2 = .ok (.iconst 0, 1) := by decide +kernel
theorem dX1_allGains_3 : decode cX1_allGains 3 = .ok (.istore_n 2, 1) := by decide +kernel
theorem dX1_allGains_4 : decode cX1_allGains 4 = .ok (.iload_n 2, 1) := by decide +kernel
theorem dX1_allGains_5 : decode cX1_allGains 5 = .ok (.aload_n 0, 1) := by decide +kernel
theorem dX1_allGains_6 : decode cX1_allGains 6 = .ok (.getfield 15, 3) := by decide +kernel
theorem dX1_allGains_9 : decode cX1_allGains 9 = .ok (.getfield 34, 3) := by decide +kernel
theorem dX1_allGains_12 : decode cX1_allGains 12 = .ok (.if_icmp .ge 29, 3) := by decide +kernel
theorem dX1_allGains_15 : decode cX1_allGains 15 = .ok (.aload_n 0, 1) := by decide +kernel
theorem dX1_allGains_16 : decode cX1_allGains 16 = .ok (.getfield 15, 3) := by decide +kernel
theorem dX1_allGains_19 : decode cX1_allGains 19 = .ok (.iload_n 2, 1) := by decide +kernel
theorem dX1_allGains_20 : decode cX1_allGains 20 = .ok (.invokevirtual 39, 3) := by decide +kernel
theorem dX1_allGains_23 : decode cX1_allGains 23 = .ok (.astore_n 3, 1) := by decide +kernel
theorem dX1_allGains_24 : decode cX1_allGains 24 = .ok (.aload_n 3, 1) := by decide +kernel
theorem dX1_allGains_25 : decode cX1_allGains 25 = .ok (.ifnull 10, 3) := by decide +kernel
theorem dX1_allGains_28 : decode cX1_allGains 28 = .ok (.iload_n 1, 1) := by decide +kernel
theorem dX1_allGains_29 : decode cX1_allGains 29 = .ok (.aload_n 3, 1) := by decide +kernel
theorem dX1_allGains_30 : decode cX1_allGains 30 = .ok (.getfield 43, 3) := by decide +kernel
theorem dX1_allGains_33 : decode cX1_allGains 33 = .ok (.iadd, 1) := by decide +kernel
theorem dX1_allGains_34 : decode cX1_allGains 34 = .ok (.istore_n 1, 1) := by decide +kernel
theorem dX1_allGains_35 : decode cX1_allGains 35 = .ok (.iinc 2 1, 3) := by decide +kernel
theorem dX1_allGains_38 : decode cX1_allGains 38 = .ok (.goto (-34), 3) := by decide +kernel
theorem dX1_allGains_41 : decode cX1_allGains 41 = .ok (.iload_n 1, 1) := by decide +kernel
theorem dX1_allGains_42 : decode cX1_allGains 42 = .ok (.ireturn, 1) := by decide +kernel
theorem dX1_giveWholeParts_0 : decode cX1_giveWholeParts 0 = .ok (.iload_n 2, 1) := by decide +kernel
theorem dX1_giveWholeParts_1 : decode cX1_giveWholeParts 1 = .ok (.ifCond .gt 5, 3) := by decide +kernel
theorem dX1_giveWholeParts_4 : decode cX1_giveWholeParts 4 = .ok (.iconst 0, 1) := by decide +kernel
theorem dX1_giveWholeParts_5 : decode cX1_giveWholeParts 5 = .ok (.ireturn, 1) := by decide +kernel
theorem dX1_giveWholeParts_6 : decode cX1_giveWholeParts 6 = .ok (.iconst 0, 1) := by decide +kernel
theorem dX1_giveWholeParts_7 : decode cX1_giveWholeParts 7 = .ok (.istore_n 3, 1) := by decide +kernel
theorem dX1_giveWholeParts_8 : decode cX1_giveWholeParts 8 = .ok (.iconst 0, 1) := by decide +kernel
theorem dX1_giveWholeParts_9 : decode cX1_giveWholeParts 9 = .ok (.istore 4, 2) := by decide +kernel
theorem dX1_giveWholeParts_11 : decode cX1_giveWholeParts 11 = .ok (.iload 4, 2) := by decide +kernel
theorem dX1_giveWholeParts_13 : decode cX1_giveWholeParts 13 = .ok (.aload_n 0, 1) := by decide +kernel
theorem dX1_giveWholeParts_14 : decode cX1_giveWholeParts 14 = .ok (.getfield 15, 3) := by decide +kernel
theorem dX1_giveWholeParts_17 : decode cX1_giveWholeParts 17 = .ok (.getfield 34, 3) := by decide +kernel
theorem dX1_giveWholeParts_20 : decode cX1_giveWholeParts 20 = .ok (.if_icmp .ge 85, 3) := by decide +kernel
theorem dX1_giveWholeParts_23 : decode cX1_giveWholeParts 23 = .ok (.aload_n 0, 1) := by decide +kernel
theorem dX1_giveWholeParts_24 : decode cX1_giveWholeParts 24 = .ok (.getfield 15, 3) := by decide +kernel
theorem dX1_giveWholeParts_27 : decode cX1_giveWholeParts 27 = .ok (.iload 4, 2) := by decide +kernel
theorem dX1_giveWholeParts_29 : decode cX1_giveWholeParts 29 = .ok (.invokevirtual 39, 3) := by decide +kernel
theorem dX1_giveWholeParts_32 : decode cX1_giveWholeParts 32 = .ok (.astore 5, 2) := by decide +kernel
theorem dX1_giveWholeParts_34 : decode cX1_giveWholeParts 34 = .ok (.aload 5, 2) := by decide +kernel
theorem dX1_giveWholeParts_36 : decode cX1_giveWholeParts 36 = .ok (.ifnonnull 6, 3) := by decide +kernel
theorem dX1_giveWholeParts_39 : decode cX1_giveWholeParts 39 = .ok (.goto 60, 3) := by decide +kernel
theorem dX1_giveWholeParts_42 : decode cX1_giveWholeParts 42 = .ok (.iload_n 1, 1) := by decide +kernel
theorem dX1_giveWholeParts_43 : decode cX1_giveWholeParts 43 = .ok (.i2l, 1) := by decide +kernel
theorem dX1_giveWholeParts_44 : decode cX1_giveWholeParts 44 = .ok (.aload 5, 2) := by decide +kernel
theorem dX1_giveWholeParts_46 : decode cX1_giveWholeParts 46 = .ok (.getfield 43, 3) := by decide +kernel
theorem dX1_giveWholeParts_49 : decode cX1_giveWholeParts 49 = .ok (.i2l, 1) := by decide +kernel
theorem dX1_giveWholeParts_50 : decode cX1_giveWholeParts 50 = .ok (.lmul, 1) := by decide +kernel
theorem dX1_giveWholeParts_51 : decode cX1_giveWholeParts 51 = .ok (.lstore 6, 2) := by decide +kernel
theorem dX1_giveWholeParts_53 : decode cX1_giveWholeParts 53 = .ok (.lload 6, 2) := by decide +kernel
theorem dX1_giveWholeParts_55 : decode cX1_giveWholeParts 55 = .ok (.iload_n 2, 1) := by decide +kernel
theorem dX1_giveWholeParts_56 : decode cX1_giveWholeParts 56 = .ok (.i2l, 1) := by decide +kernel
theorem dX1_giveWholeParts_57 : decode cX1_giveWholeParts 57 = .ok (.ldiv, 1) := by decide +kernel
theorem dX1_giveWholeParts_58 : decode cX1_giveWholeParts 58 = .ok (.l2i, 1) := by decide +kernel
theorem dX1_giveWholeParts_59 : decode cX1_giveWholeParts 59 = .ok (.istore 8, 2) := by decide +kernel
theorem dX1_giveWholeParts_61 : decode cX1_giveWholeParts 61 = .ok (.aload_n 0, 1) := by decide +kernel
theorem dX1_giveWholeParts_62 : decode cX1_giveWholeParts 62 = .ok (.getfield 9, 3) := by decide +kernel
theorem dX1_giveWholeParts_65 : decode cX1_giveWholeParts 65 = .ok (.iload 4, 2) := by decide +kernel
theorem dX1_giveWholeParts_67 : decode cX1_giveWholeParts 67 = .ok (.lload 6, 2) := by decide +kernel
theorem dX1_giveWholeParts_69 : decode cX1_giveWholeParts 69 = .ok (.iload_n 2, 1) := by decide +kernel
theorem dX1_giveWholeParts_70 : decode cX1_giveWholeParts 70 = .ok (.i2l, 1) := by decide +kernel
theorem dX1_giveWholeParts_71 : decode cX1_giveWholeParts 71 = .ok (.lrem, 1) := by decide +kernel
theorem dX1_giveWholeParts_72 : decode cX1_giveWholeParts 72 = .ok (.l2i, 1) := by decide +kernel
theorem dX1_giveWholeParts_73 : decode cX1_giveWholeParts 73 = .ok (.invokestatic 48, 3) := by decide +kernel
theorem dX1_giveWholeParts_76 : decode cX1_giveWholeParts 76 = .ok (.aload 5, 2) := by decide +kernel
theorem dX1_giveWholeParts_78 : decode cX1_giveWholeParts 78 = .ok (.dup, 1) := by decide +kernel
theorem dX1_giveWholeParts_79 : decode cX1_giveWholeParts 79 = .ok (.getfield 52, 3) := by decide +kernel
theorem dX1_giveWholeParts_82 : decode cX1_giveWholeParts 82 = .ok (.iload 8, 2) := by decide +kernel
theorem dX1_giveWholeParts_84 : decode cX1_giveWholeParts 84 = .ok (.iadd, 1) := by decide +kernel
theorem dX1_giveWholeParts_85 : decode cX1_giveWholeParts 85 = .ok (.putfield 52, 3) := by decide +kernel
theorem dX1_giveWholeParts_88 : decode cX1_giveWholeParts 88 = .ok (.aload 5, 2) := by decide +kernel
theorem dX1_giveWholeParts_90 : decode cX1_giveWholeParts 90 = .ok (.iconst 0, 1) := by decide +kernel
theorem dX1_giveWholeParts_91 : decode cX1_giveWholeParts 91 = .ok (.putfield 43, 3) := by decide +kernel
theorem dX1_giveWholeParts_94 : decode cX1_giveWholeParts 94 = .ok (.iload_n 3, 1) := by decide +kernel
theorem dX1_giveWholeParts_95 : decode cX1_giveWholeParts 95 = .ok (.iload 8, 2) := by decide +kernel
theorem dX1_giveWholeParts_97 : decode cX1_giveWholeParts 97 = .ok (.iadd, 1) := by decide +kernel
theorem dX1_giveWholeParts_98 : decode cX1_giveWholeParts 98 = .ok (.istore_n 3, 1) := by decide +kernel
theorem dX1_giveWholeParts_99 : decode cX1_giveWholeParts 99 = .ok (.iinc 4 1, 3) := by decide +kernel
theorem dX1_giveWholeParts_102 : decode cX1_giveWholeParts 102 = .ok (.goto (-91), 3) := by decide +kernel
theorem dX1_giveWholeParts_105 : decode cX1_giveWholeParts 105 = .ok (.iload_n 3, 1) := by decide +kernel
theorem dX1_giveWholeParts_106 : decode cX1_giveWholeParts 106 = .ok (.ireturn, 1) := by decide +kernel
theorem dX1_giveToGreatestRest_0 : decode cX1_giveToGreatestRest 0 = .ok (.iconst 0, 1) := by decide +kernel
theorem dX1_giveToGreatestRest_1 : decode cX1_giveToGreatestRest 1 = .ok (.istore_n 1, 1) := by decide +kernel
theorem dX1_giveToGreatestRest_2 : decode cX1_giveToGreatestRest 2 = .ok (.iconst 1, 1) := by decide +kernel
theorem dX1_giveToGreatestRest_3 : decode cX1_giveToGreatestRest 3 = .ok (.istore_n 2, 1) := by decide +kernel
theorem dX1_giveToGreatestRest_4 : decode cX1_giveToGreatestRest 4 = .ok (.iload_n 2, 1) := by decide +kernel
theorem dX1_giveToGreatestRest_5 : decode cX1_giveToGreatestRest 5 = .ok (.aload_n 0, 1) := by decide +kernel
theorem dX1_giveToGreatestRest_6 : decode cX1_giveToGreatestRest 6 = .ok (.getfield 15, 3) := by decide +kernel
theorem dX1_giveToGreatestRest_9 : decode cX1_giveToGreatestRest 9 = .ok (.getfield 34, 3) := by decide +kernel
theorem dX1_giveToGreatestRest_12 : decode cX1_giveToGreatestRest 12 = .ok (.if_icmp .ge 30, 3) := by decide +kernel
theorem dX1_giveToGreatestRest_15 : decode cX1_giveToGreatestRest 15 = .ok (.aload_n 0, 1) := by decide +kernel
theorem dX1_giveToGreatestRest_16 : decode cX1_giveToGreatestRest 16 = .ok (.getfield 9, 3) := by decide +kernel
theorem dX1_giveToGreatestRest_19 : decode cX1_giveToGreatestRest 19 = .ok (.iload_n 2, 1) := by decide +kernel
theorem dX1_giveToGreatestRest_20 : decode cX1_giveToGreatestRest 20 = .ok (.invokestatic 55, 3) := by decide +kernel
theorem dX1_giveToGreatestRest_23 : decode cX1_giveToGreatestRest 23 = .ok (.aload_n 0, 1) := by decide +kernel
theorem dX1_giveToGreatestRest_24 : decode cX1_giveToGreatestRest 24 = .ok (.getfield 9, 3) := by decide +kernel
theorem dX1_giveToGreatestRest_27 : decode cX1_giveToGreatestRest 27 = .ok (.iload_n 1, 1) := by decide +kernel
theorem dX1_giveToGreatestRest_28 : decode cX1_giveToGreatestRest 28 = .ok (.invokestatic 55, 3) := by decide +kernel
theorem dX1_giveToGreatestRest_31 : decode cX1_giveToGreatestRest 31 = .ok (.if_icmp .le 5, 3) := by decide +kernel
theorem dX1_giveToGreatestRest_34 : decode cX1_giveToGreatestRest 34 = .ok (.iload_n 2, 1) := by decide +kernel
theorem dX1_giveToGreatestRest_35 : decode cX1_giveToGreatestRest 35 = .ok (.istore_n 1, 1) := by decide +kernel
theorem dX1_giveToGreatestRest_36 : decode cX1_giveToGreatestRest 36 = .ok (.iinc 2 1, 3) := by decide +kernel
theorem dX1_giveToGreatestRest_39 : decode cX1_giveToGreatestRest 39 = .ok (.goto (-35), 3) := by decide +kernel
theorem dX1_giveToGreatestRest_42 : decode cX1_giveToGreatestRest 42 = .ok (.aload_n 0, 1) := by decide +kernel
theorem dX1_giveToGreatestRest_43 : decode cX1_giveToGreatestRest 43 = .ok (.getfield 15, 3) := by decide +kernel
theorem dX1_giveToGreatestRest_46 : decode cX1_giveToGreatestRest 46 = .ok (.iload_n 1, 1) := by decide +kernel
theorem dX1_giveToGreatestRest_47 : decode cX1_giveToGreatestRest 47 = .ok (.invokevirtual 39, 3) := by decide +kernel
theorem dX1_giveToGreatestRest_50 : decode cX1_giveToGreatestRest 50 = .ok (.astore_n 2, 1) := by decide +kernel
theorem dX1_giveToGreatestRest_51 : decode cX1_giveToGreatestRest 51 = .ok (.aload_n 2, 1) := by decide +kernel
theorem dX1_giveToGreatestRest_52 : decode cX1_giveToGreatestRest 52 = .ok (.ifnonnull 4, 3) := by decide +kernel
theorem dX1_giveToGreatestRest_55 : decode cX1_giveToGreatestRest 55 = .ok (.return_, 1) := by decide +kernel
theorem dX1_giveToGreatestRest_56 : decode cX1_giveToGreatestRest 56 = .ok (.aload_n 2, 1) := by decide +kernel
theorem dX1_giveToGreatestRest_57 : decode cX1_giveToGreatestRest 57 = .ok (.dup, 1) := by decide +kernel
theorem dX1_giveToGreatestRest_58 : decode cX1_giveToGreatestRest 58 = .ok (.getfield 52, 3) := by decide +kernel
theorem dX1_giveToGreatestRest_61 : decode cX1_giveToGreatestRest 61 = .ok (.iconst 1, 1) := by decide +kernel
theorem dX1_giveToGreatestRest_62 : decode cX1_giveToGreatestRest 62 = .ok (.iadd, 1) := by decide +kernel
theorem dX1_giveToGreatestRest_63 : decode cX1_giveToGreatestRest 63 = .ok (.putfield 52, 3) := by decide +kernel
theorem dX1_giveToGreatestRest_66 : decode cX1_giveToGreatestRest 66 = .ok (.aload_n 0, 1) := by decide +kernel
theorem dX1_giveToGreatestRest_67 : decode cX1_giveToGreatestRest 67 = .ok (.getfield 9, 3) := by decide +kernel
theorem dX1_giveToGreatestRest_70 : decode cX1_giveToGreatestRest 70 = .ok (.iload_n 1, 1) := by decide +kernel
theorem dX1_giveToGreatestRest_71 : decode cX1_giveToGreatestRest 71 = .ok (.iconst 0, 1) := by decide +kernel
theorem dX1_giveToGreatestRest_72 : decode cX1_giveToGreatestRest 72 = .ok (.invokestatic 48, 3) := by decide +kernel
theorem dX1_giveToGreatestRest_75 : decode cX1_giveToGreatestRest 75 = .ok (.return_, 1) := by decide +kernel
theorem dX2_init_0 : decode cX2_init 0 = .ok (.aload_n 0, 1) := by decide +kernel
theorem dX2_init_1 : decode cX2_init 1 = .ok (.invokespecial 3, 3) := by decide +kernel
theorem dX2_init_4 : decode cX2_init 4 = .ok (.aload_n 0, 1) := by decide +kernel
theorem dX2_init_5 : decode cX2_init 5 = .ok (.bipush 43, 2) := by decide +kernel
theorem dX2_init_7 : decode cX2_init 7 = .ok (.bipush 30, 2) := by decide +kernel
theorem dX2_init_9 : decode cX2_init 9 = .ok (.multianewarray 9 2, 4) := by decide +kernel
theorem dX2_init_13 : decode cX2_init 13 = .ok (.putfield 11, 3) := by decide +kernel
theorem dX2_init_16 : decode cX2_init 16 = .ok (.aload_n 0, 1) := by decide +kernel
theorem dX2_init_17 : decode cX2_init 17 = .ok (.bipush 43, 2) := by decide +kernel
theorem dX2_init_19 : decode cX2_init 19 = .ok (.newarray .int, 2) := by decide +kernel
theorem dX2_init_21 : decode cX2_init 21 = .ok (.putfield 16, 3) := by decide +kernel
theorem dX2_init_24 : decode cX2_init 24 = .ok (.aload_n 0, 1) := by decide +kernel
theorem dX2_init_25 : decode cX2_init 25 = .ok (.bipush 30, 2) := by decide +kernel
theorem dX2_init_27 : decode cX2_init 27 = .ok (.newarray .int, 2) := by decide +kernel
theorem dX2_init_29 : decode cX2_init 29 = .ok (.putfield 20, 3) := by decide +kernel
theorem dX2_init_32 : decode cX2_init 32 = .ok (.aload_n 0, 1) := by decide +kernel
theorem dX2_init_33 : decode cX2_init 33 = .ok (.bipush 10, 2) := by decide +kernel
theorem dX2_init_35 : decode cX2_init 35 = .ok (.putfield 23, 3) := by decide +kernel
theorem dX2_init_38 : decode cX2_init 38 = .ok (.aload_n 0, 1) := by decide +kernel
theorem dX2_init_39 : decode cX2_init 39 = .ok (.aload_n 1, 1) := by decide +kernel
theorem dX2_init_40 : decode cX2_init 40 = .ok (.putfield 27, 3) := by decide +kernel
theorem dX2_init_43 : decode cX2_init 43 = .ok (.return_, 1) := by decide +kernel
theorem dX2_fillFrom_0 : decode cX2_fillFrom 0 = .ok (.aload_n 0, 1) := by decide +kernel
theorem dX2_fillFrom_1 : decode cX2_fillFrom 1 = .ok (.iconst 0, 1) := by decide +kernel
theorem dX2_fillFrom_2 : decode cX2_fillFrom 2 = .ok (.putfield 31, 3) := by decide +kernel
theorem dX2_fillFrom_5 : decode cX2_fillFrom 5 = .ok (.iconst 0, 1) := by decide +kernel
theorem dX2_fillFrom_6 : decode cX2_fillFrom 6 = .ok (.istore_n 2, 1) := by decide +kernel
theorem dX2_fillFrom_7 : decode cX2_fillFrom 7 = .ok (.iload_n 2, 1) := by decide +kernel
theorem dX2_fillFrom_8 : decode cX2_fillFrom 8 = .ok (.aload_n 0, 1) := by decide +kernel
theorem dX2_fillFrom_9 : decode cX2_fillFrom 9 = .ok (.getfield 20, 3) := by decide +kernel
theorem dX2_fillFrom_12 : decode cX2_fillFrom 12 = .ok (.arraylength, 1) := by decide +kernel
theorem dX2_fillFrom_13 : decode cX2_fillFrom 13 = .ok (.if_icmp .ge 16, 3) := by decide +kernel
theorem dX2_fillFrom_16 : decode cX2_fillFrom 16 = .ok (.aload_n 0, 1) := by decide +kernel
theorem dX2_fillFrom_17 : decode cX2_fillFrom 17 = .ok (.getfield 20, 3) := by decide +kernel
theorem dX2_fillFrom_20 : decode cX2_fillFrom 20 = .ok (.iload_n 2, 1) := by decide +kernel
theorem dX2_fillFrom_21 : decode cX2_fillFrom 21 = .ok (.iconst 0, 1) := by decide +kernel
theorem dX2_fillFrom_22 : decode cX2_fillFrom 22 = .ok (.iastore, 1) := by decide +kernel
theorem dX2_fillFrom_23 : decode cX2_fillFrom 23 = .ok (.iinc 2 1, 3) := by decide +kernel
theorem dX2_fillFrom_26 : decode cX2_fillFrom 26 = .ok (.goto (-19), 3) := by decide +kernel
theorem dX2_fillFrom_29 : decode cX2_fillFrom 29 = .ok (.iconst 0, 1) := by decide +kernel
theorem dX2_fillFrom_30 : decode cX2_fillFrom 30 = .ok (.istore_n 2, 1) := by decide +kernel
theorem dX2_fillFrom_31 : decode cX2_fillFrom 31 = .ok (.iload_n 2, 1) := by decide +kernel
theorem dX2_fillFrom_32 : decode cX2_fillFrom 32 = .ok (.aload_n 1, 1) := by decide +kernel
theorem dX2_fillFrom_33 : decode cX2_fillFrom 33 = .ok (.getfield 34, 3) := by decide +kernel
theorem dX2_fillFrom_36 : decode cX2_fillFrom 36 = .ok (.if_icmp .ge 49, 3) := by decide +kernel
theorem dX2_fillFrom_39 : decode cX2_fillFrom 39 = .ok (.aload_n 1, 1) := by decide +kernel
theorem dX2_fillFrom_40 : decode cX2_fillFrom 40 = .ok (.iload_n 2, 1) := by decide +kernel
theorem dX2_fillFrom_41 : decode cX2_fillFrom 41 = .ok (.invokevirtual 39, 3) := by decide +kernel
theorem dX2_fillFrom_44 : decode cX2_fillFrom 44 = .ok (.astore_n 3, 1) := by decide +kernel
theorem dX2_fillFrom_45 : decode cX2_fillFrom 45 = .ok (.aload_n 3, 1) := by decide +kernel
theorem dX2_fillFrom_46 : decode cX2_fillFrom 46 = .ok (.ifnonnull 6, 3) := by decide +kernel
theorem dX2_fillFrom_49 : decode cX2_fillFrom 49 = .ok (.goto 30, 3) := by decide +kernel
theorem dX2_fillFrom_52 : decode cX2_fillFrom 52 = .ok (.aload_n 0, 1) := by decide +kernel
theorem dX2_fillFrom_53 : decode cX2_fillFrom 53 = .ok (.aload_n 3, 1) := by decide +kernel
theorem dX2_fillFrom_54 : decode cX2_fillFrom 54 = .ok (.getfield 43, 3) := by decide +kernel
theorem dX2_fillFrom_57 : decode cX2_fillFrom 57 = .ok (.aload_n 3, 1) := by decide +kernel
theorem dX2_fillFrom_58 : decode cX2_fillFrom 58 = .ok (.invokevirtual 48, 3) := by decide +kernel
theorem dX2_fillFrom_61 : decode cX2_fillFrom 61 = .ok (.ifCond .eq 10, 3) := by decide +kernel
theorem dX2_fillFrom_64 : decode cX2_fillFrom 64 = .ok (.aload_n 3, 1) := by decide +kernel
theorem dX2_fillFrom_65 : decode cX2_fillFrom 65 = .ok (.getfield 52, 3) := by decide +kernel
theorem dX2_fillFrom_68 : decode cX2_fillFrom 68 = .ok (.goto 4, 3) := by decide +kernel
theorem dX2_fillFrom_71 : decode cX2_fillFrom 71 = .ok (.iconst 0, 1) := by decide +kernel
theorem dX2_fillFrom_72 : decode cX2_fillFrom 72 = .ok (.aload_n 3, 1) := by decide +kernel
theorem dX2_fillFrom_73 : decode cX2_fillFrom 73 = .ok (.getfield 55, 3) := by decide +kernel
theorem dX2_fillFrom_76 : decode cX2_fillFrom 76 = .ok (.invokevirtual 58, 3) := by decide +kernel
theorem dX2_fillFrom_79 : decode cX2_fillFrom 79 = .ok (.iinc 2 1, 3) := by decide +kernel
theorem dX2_fillFrom_82 : decode cX2_fillFrom 82 = .ok (.goto (-51), 3) := by decide +kernel
theorem dX2_fillFrom_85 : decode cX2_fillFrom 85 = .ok (.return_, 1) := by decide +kernel
theorem dX2_addStall_0 : decode cX2_addStall 0 = .ok (.aload_n 0, 1) := by decide +kernel
theorem dX2_addStall_1 : decode cX2_addStall 1 = .ok (.getfield 31, 3) := by decide +kernel
theorem dX2_addStall_4 : decode cX2_addStall 4 = .ok (.ifCond .lt 15, 3) := by decide +kernel
theorem dX2_addStall_7 : decode cX2_addStall 7 = .ok (.aload_n 0, 1) := by decide +kernel
theorem dX2_addStall_8 : decode cX2_addStall 8 = .ok (.getfield 31, 3) := by decide +kernel
theorem dX2_addStall_11 : decode cX2_addStall 11 = .ok (.aload_n 0, 1) := by decide +kernel
theorem dX2_addStall_12 : decode cX2_addStall 12 = .ok (.getfield 11, 3) := by decide +kernel
theorem dX2_addStall_15 : decode cX2_addStall 15 = .ok (.arraylength, 1) := by decide +kernel
theorem dX2_addStall_16 : decode cX2_addStall 16 = .ok (.if_icmp .lt 4, 3) := by decide +kernel
theorem dX2_addStall_19 : decode cX2_addStall 19 = .ok (.return_, 1) := by decide +kernel
theorem dX2_addStall_20 : decode cX2_addStall 20 = .ok (.aload_n 0, 1) := by decide +kernel
theorem dX2_addStall_21 : decode cX2_addStall 21 = .ok (.getfield 11, 3) := by decide +kernel
theorem dX2_addStall_24 : decode cX2_addStall 24 = .ok (.aload_n 0, 1) := by decide +kernel
theorem dX2_addStall_25 : decode cX2_addStall 25 = .ok (.getfield 31, 3) := by decide +kernel
theorem dX2_addStall_28 : decode cX2_addStall 28 = .ok (.aaload, 1) := by decide +kernel
theorem dX2_addStall_29 : decode cX2_addStall 29 = .ok (.astore 4, 2) := by decide +kernel
theorem dX2_addStall_31 : decode cX2_addStall 31 = .ok (.iconst 0, 1) := by decide +kernel
theorem dX2_addStall_32 : decode cX2_addStall 32 = .ok (.istore 5, 2) := by decide +kernel
theorem dX2_addStall_34 : decode cX2_addStall 34 = .ok (.iload 5, 2) := by decide +kernel
theorem dX2_addStall_36 : decode cX2_addStall 36 = .ok (.aload 4, 2) := by decide +kernel
theorem dX2_addStall_38 : decode cX2_addStall 38 = .ok (.arraylength, 1) := by decide +kernel
theorem dX2_addStall_39 : decode cX2_addStall 39 = .ok (.if_icmp .ge 53, 3) := by decide +kernel
theorem dX2_addStall_42 : decode cX2_addStall 42 = .ok (.iload 5, 2) := by decide +kernel
theorem dX2_addStall_44 : decode cX2_addStall 44 = .ok (.aload_n 0, 1) := by decide +kernel
theorem dX2_addStall_45 : decode cX2_addStall 45 = .ok (.getfield 20, 3) := by decide +kernel
theorem dX2_addStall_48 : decode cX2_addStall 48 = .ok (.arraylength, 1) := by decide +kernel
theorem dX2_addStall_49 : decode cX2_addStall 49 = .ok (.if_icmp .ge 43, 3) := by decide +kernel
theorem dX2_addStall_52 : decode cX2_addStall 52 = .ok (.aload 4, 2) := by decide +kernel
theorem dX2_addStall_54 : decode cX2_addStall 54 = .ok (.iload 5, 2) := by decide +kernel
theorem dX2_addStall_56 : decode cX2_addStall 56 = .ok (.iload_n 2, 1) := by decide +kernel
theorem dX2_addStall_57 : decode cX2_addStall 57 = .ok (.aload_n 0, 1) := by decide +kernel
theorem dX2_addStall_58 : decode cX2_addStall 58 = .ok (.getfield 27, 3) := by decide +kernel
theorem dX2_addStall_61 : decode cX2_addStall 61 = .ok (.iload 5, 2) := by decide +kernel
theorem dX2_addStall_63 : decode cX2_addStall 63 = .ok (.iload_n 1, 1) := by decide +kernel
theorem dX2_addStall_64 : decode cX2_addStall 64 = .ok (.invokevirtual 62, 3) := by decide +kernel
theorem dX2_addStall_67 : decode cX2_addStall 67 = .ok (.invokestatic 68, 3) := by decide +kernel
theorem dX2_addStall_70 : decode cX2_addStall 70 = .ok (.iastore, 1) := by decide +kernel
theorem dX2_addStall_71 : decode cX2_addStall 71 = .ok (.aload_n 0, 1) := by decide +kernel
theorem dX2_addStall_72 : decode cX2_addStall 72 = .ok (.getfield 20, 3) := by decide +kernel
theorem dX2_addStall_75 : decode cX2_addStall 75 = .ok (.iload 5, 2) := by decide +kernel
theorem dX2_addStall_77 : decode cX2_addStall 77 = .ok (.dup2, 1) := by decide +kernel
theorem dX2_addStall_78 : decode cX2_addStall 78 = .ok (.iaload, 1) := by decide +kernel
theorem dX2_addStall_79 : decode cX2_addStall 79 = .ok (.aload 4, 2) := by decide +kernel
theorem dX2_addStall_81 : decode cX2_addStall 81 = .ok (.iload 5, 2) := by decide +kernel
theorem dX2_addStall_83 : decode cX2_addStall 83 = .ok (.iaload, 1) := by decide +kernel
theorem dX2_addStall_84 : decode cX2_addStall 84 = .ok (.iadd, 1) := by decide +kernel
theorem dX2_addStall_85 : decode cX2_addStall 85 = .ok (.iastore, 1) := by decide +kernel
theorem dX2_addStall_86 : decode cX2_addStall 86 = .ok (.iinc 5 1, 3) := by decide +kernel
theorem dX2_addStall_89 : decode cX2_addStall 89 = .ok (.goto (-55), 3) := by decide +kernel
theorem dX2_addStall_92 : decode cX2_addStall 92 = .ok (.aload_n 0, 1) := by decide +kernel
theorem dX2_addStall_93 : decode cX2_addStall 93 = .ok (.getfield 16, 3) := by decide +kernel
theorem dX2_addStall_96 : decode cX2_addStall 96 = .ok (.aload_n 0, 1) := by decide +kernel
theorem dX2_addStall_97 : decode cX2_addStall 97 = .ok (.getfield 31, 3) := by decide +kernel
theorem dX2_addStall_100 : decode cX2_addStall 100 = .ok (.iload_n 3, 1) := by decide +kernel
theorem dX2_addStall_101 : decode cX2_addStall 101 = .ok (.invokestatic 71, 3) := by decide +kernel
theorem dX2_addStall_104 : decode cX2_addStall 104 = .ok (.aload_n 0, 1) := by decide +kernel
theorem dX2_addStall_105 : decode cX2_addStall 105 = .ok (.dup, 1) := by decide +kernel
theorem dX2_addStall_106 : decode cX2_addStall 106 = .ok (.getfield 31, 3) := by decide +kernel
theorem dX2_addStall_109 : decode cX2_addStall 109 = .ok (.iconst 1, 1) := by decide +kernel
theorem dX2_addStall_110 : decode cX2_addStall 110 = .ok (.iadd, 1) := by decide +kernel
theorem dX2_addStall_111 : decode cX2_addStall 111 = .ok (.putfield 31, 3) := by decide +kernel
theorem dX2_addStall_114 : decode cX2_addStall 114 = .ok (.return_, 1) := by decide +kernel
theorem dX2_dropStall_0 : decode cX2_dropStall 0 = .ok (.aload_n 0, 1) := by decide +kernel
theorem dX2_dropStall_1 : decode cX2_dropStall 1 = .ok (.getfield 31, 3) := by decide +kernel
theorem dX2_dropStall_4 : decode cX2_dropStall 4 = .ok (.ifCond .le 15, 3) := by decide +kernel
theorem dX2_dropStall_7 : decode cX2_dropStall 7 = .ok (.aload_n 0, 1) := by decide +kernel
theorem dX2_dropStall_8 : decode cX2_dropStall 8 = .ok (.getfield 31, 3) := by decide +kernel
theorem dX2_dropStall_11 : decode cX2_dropStall 11 = .ok (.aload_n 0, 1) := by decide +kernel
theorem dX2_dropStall_12 : decode cX2_dropStall 12 = .ok (.getfield 11, 3) := by decide +kernel
theorem dX2_dropStall_15 : decode cX2_dropStall 15 = .ok (.arraylength, 1) := by decide +kernel
theorem dX2_dropStall_16 : decode cX2_dropStall 16 = .ok (.if_icmp .le 4, 3) := by decide +kernel
theorem dX2_dropStall_19 : decode cX2_dropStall 19 = .ok (.return_, 1) := by decide +kernel
theorem dX2_dropStall_20 : decode cX2_dropStall 20 = .ok (.aload_n 0, 1) := by decide +kernel
theorem dX2_dropStall_21 : decode cX2_dropStall 21 = .ok (.dup, 1) := by decide +kernel
theorem dX2_dropStall_22 : decode cX2_dropStall 22 = .ok (.getfield 31, 3) := by decide +kernel
theorem dX2_dropStall_25 : decode cX2_dropStall 25 = .ok (.iconst 1, 1) := by decide +kernel
theorem dX2_dropStall_26 : decode cX2_dropStall 26 = .ok (.isub, 1) := by decide +kernel
theorem dX2_dropStall_27 : decode cX2_dropStall 27 = .ok (.putfield 31, 3) := by decide +kernel
theorem dX2_dropStall_30 : decode cX2_dropStall 30 = .ok (.aload_n 0, 1) := by decide +kernel
theorem dX2_dropStall_31 : decode cX2_dropStall 31 = .ok (.getfield 11, 3) := by decide +kernel
theorem dX2_dropStall_34 : decode cX2_dropStall 34 = .ok (.aload_n 0, 1) := by decide +kernel
theorem dX2_dropStall_35 : decode cX2_dropStall 35 = .ok (.getfield 31, 3) := by decide +kernel
theorem dX2_dropStall_38 : decode cX2_dropStall 38 = .ok (.aaload, 1) := by decide +kernel
theorem dX2_dropStall_39 : decode cX2_dropStall 39 = .ok (.astore_n 1, 1) := by decide +kernel
theorem dX2_dropStall_40 : decode cX2_dropStall 40 = .ok (.iconst 0, 1) := by decide +kernel
theorem dX2_dropStall_41 : decode cX2_dropStall 41 = .ok (.istore_n 2, 1) := by decide +kernel
theorem dX2_dropStall_42 : decode cX2_dropStall 42 = .ok (.iload_n 2, 1) := by decide +kernel
theorem dX2_dropStall_43 : decode cX2_dropStall 43 = .ok (.aload_n 1, 1) := by decide +kernel
theorem dX2_dropStall_44 : decode cX2_dropStall 44 = .ok (.arraylength, 1) := by decide +kernel
theorem dX2_dropStall_45 : decode cX2_dropStall 45 = .ok (.if_icmp .ge 30, 3) := by decide +kernel
theorem dX2_dropStall_48 : decode cX2_dropStall 48 = .ok (.iload_n 2, 1) := by decide +kernel
theorem dX2_dropStall_49 : decode cX2_dropStall 49 = .ok (.aload_n 0, 1) := by decide +kernel
theorem dX2_dropStall_50 : decode cX2_dropStall 50 = .ok (.getfield 20, 3) := by decide +kernel
theorem dX2_dropStall_53 : decode cX2_dropStall 53 = .ok (.arraylength, 1) := by decide +kernel
theorem dX2_dropStall_54 : decode cX2_dropStall 54 = .ok (.if_icmp .ge 21, 3) := by decide +kernel
theorem dX2_dropStall_57 : decode cX2_dropStall 57 = .ok (.aload_n 0, 1) := by decide +kernel
theorem dX2_dropStall_58 : decode cX2_dropStall 58 = .ok (.getfield 20, 3) := by decide +kernel
theorem dX2_dropStall_61 : decode cX2_dropStall 61 = .ok (.iload_n 2, 1) := by decide +kernel
theorem dX2_dropStall_62 : decode cX2_dropStall 62 = .ok (.dup2, 1) := by decide +kernel
theorem dX2_dropStall_63 : decode cX2_dropStall 63 = .ok (.iaload, 1) := by decide +kernel
theorem dX2_dropStall_64 : decode cX2_dropStall 64 = .ok (.aload_n 1, 1) := by decide +kernel
theorem dX2_dropStall_65 : decode cX2_dropStall 65 = .ok (.iload_n 2, 1) := by decide +kernel
theorem dX2_dropStall_66 : decode cX2_dropStall 66 = .ok (.iaload, 1) := by decide +kernel
theorem dX2_dropStall_67 : decode cX2_dropStall 67 = .ok (.isub, 1) := by decide +kernel
theorem dX2_dropStall_68 : decode cX2_dropStall 68 = .ok (.iastore, 1) := by decide +kernel
theorem dX2_dropStall_69 : decode cX2_dropStall 69 = .ok (.iinc 2 1, 3) := by decide +kernel
theorem dX2_dropStall_72 : decode cX2_dropStall 72 = .ok (.goto (-30), 3) := by decide +kernel
theorem dX2_dropStall_75 : decode cX2_dropStall 75 = .ok (.return_, 1) := by decide +kernel
theorem dX2_pullOf_0 : decode cX2_pullOf 0 = .ok (.iload_n 1, 1) := by decide +kernel
theorem dX2_pullOf_1 : decode cX2_pullOf 1 = .ok (.ifCond .ge 7, 3) := by decide +kernel
theorem dX2_pullOf_4 : decode cX2_pullOf 4 = .ok (.iconst 0, 1) := by decide +kernel
theorem dX2_pullOf_5 : decode cX2_pullOf 5 = .ok (.goto 12, 3) := by decide +kernel
theorem dX2_pullOf_8 : decode cX2_pullOf 8 = .ok (.iload_n 0, 1) := by decide +kernel
theorem dX2_pullOf_9 : decode cX2_pullOf 9 = .ok (.sipush 1000, 3) := by decide +kernel
theorem dX2_pullOf_12 : decode cX2_pullOf 12 = .ok (.imul, 1) := by decide +kernel
theorem dX2_pullOf_13 : decode cX2_pullOf 13 = .ok (.iconst 1, 1) := by decide +kernel
theorem dX2_pullOf_14 : decode cX2_pullOf 14 = .ok (.iload_n 1, 1) := by decide +kernel
theorem dX2_pullOf_15 : decode cX2_pullOf 15 = .ok (.iadd, 1) := by decide +kernel
theorem dX2_pullOf_16 : decode cX2_pullOf 16 = .ok (.idiv, 1) := by decide +kernel
theorem dX2_pullOf_17 : decode cX2_pullOf 17 = .ok (.ireturn, 1) := by decide +kernel
theorem dX2_takingsOf_0 : decode cX2_takingsOf 0 = .ok (.iload_n 1, 1) := by decide +kernel
theorem dX2_takingsOf_1 : decode cX2_takingsOf 1 = .ok (.ifCond .lt 20, 3) := by decide +kernel
theorem dX2_takingsOf_4 : decode cX2_takingsOf 4 = .ok (.iload_n 1, 1) := by decide +kernel
theorem dX2_takingsOf_5 : decode cX2_takingsOf 5 = .ok (.aload_n 0, 1) := by decide +kernel
theorem dX2_takingsOf_6 : decode cX2_takingsOf 6 = .ok (.getfield 31, 3) := by decide +kernel
theorem dX2_takingsOf_9 : decode cX2_takingsOf 9 = .ok (.if_icmp .ge 12, 3) := by decide +kernel
theorem dX2_takingsOf_12 : decode cX2_takingsOf 12 = .ok (.iload_n 1, 1) := by decide +kernel
theorem dX2_takingsOf_13 : decode cX2_takingsOf 13 = .ok (.aload_n 0, 1) := by decide +kernel
theorem dX2_takingsOf_14 : decode cX2_takingsOf 14 = .ok (.getfield 11, 3) := by decide +kernel
theorem dX2_takingsOf_17 : decode cX2_takingsOf 17 = .ok (.arraylength, 1) := by decide +kernel
theorem dX2_takingsOf_18 : decode cX2_takingsOf 18 = .ok (.if_icmp .lt 5, 3) := by decide +kernel
theorem dX2_takingsOf_21 : decode cX2_takingsOf 21 = .ok (.iconst 0, 1) := by decide +kernel
theorem dX2_takingsOf_22 : decode cX2_takingsOf 22 = .ok (.ireturn, 1) := by decide +kernel
theorem dX2_takingsOf_23 : decode cX2_takingsOf 23 = .ok (.aload_n 0, 1) := by decide +kernel
theorem dX2_takingsOf_24 : decode cX2_takingsOf 24 = .ok (.getfield 11, 3) := by decide +kernel
theorem dX2_takingsOf_27 : decode cX2_takingsOf 27 = .ok (.iload_n 1, 1) := by decide +kernel
theorem dX2_takingsOf_28 : decode cX2_takingsOf 28 = .ok (.aaload, 1) := by decide +kernel
theorem dX2_takingsOf_29 : decode cX2_takingsOf 29 = .ok (.astore_n 2, 1) := by decide +kernel
theorem dX2_takingsOf_30 : decode cX2_takingsOf 30 = .ok (.iconst 0, 1) := by decide +kernel
theorem dX2_takingsOf_31 : decode cX2_takingsOf 31 = .ok (.istore_n 3, 1) := by decide +kernel
theorem dX2_takingsOf_32 : decode cX2_takingsOf 32 = .ok (.iconst 0, 1) := by decide +kernel
theorem dX2_takingsOf_33 : decode cX2_takingsOf 33 = .ok (.istore 4, 2) := by decide +kernel
theorem dX2_takingsOf_35 : decode cX2_takingsOf 35 = .ok (.iload 4, 2) := by decide +kernel
theorem dX2_takingsOf_37 : decode cX2_takingsOf 37 = .ok (.aload_n 2, 1) := by decide +kernel
theorem dX2_takingsOf_38 : decode cX2_takingsOf 38 = .ok (.arraylength, 1) := by decide +kernel
theorem dX2_takingsOf_39 : decode cX2_takingsOf 39 = .ok (.if_icmp .ge 77, 3) := by decide +kernel
theorem dX2_takingsOf_42 : decode cX2_takingsOf 42 = .ok (.iload 4, 2) := by decide +kernel
theorem dX2_takingsOf_44 : decode cX2_takingsOf 44 = .ok (.aload_n 0, 1) := by decide +kernel
theorem dX2_takingsOf_45 : decode cX2_takingsOf 45 = .ok (.getfield 20, 3) := by decide +kernel
theorem dX2_takingsOf_48 : decode cX2_takingsOf 48 = .ok (.arraylength, 1) := by decide +kernel
theorem dX2_takingsOf_49 : decode cX2_takingsOf 49 = .ok (.if_icmp .ge 67, 3) := by decide +kernel
theorem dX2_takingsOf_52 : decode cX2_takingsOf 52 = .ok (.aload_n 0, 1) := by decide +kernel
theorem dX2_takingsOf_53 : decode cX2_takingsOf 53 = .ok (.getfield 20, 3) := by decide +kernel
theorem dX2_takingsOf_56 : decode cX2_takingsOf 56 = .ok (.iload 4, 2) := by decide +kernel
theorem dX2_takingsOf_58 : decode cX2_takingsOf 58 = .ok (.iaload, 1) := by decide +kernel
theorem dX2_takingsOf_59 : decode cX2_takingsOf 59 = .ok (.istore 5, 2) := by decide +kernel
theorem dX2_takingsOf_61 : decode cX2_takingsOf 61 = .ok (.aload_n 2, 1) := by decide +kernel
theorem dX2_takingsOf_62 : decode cX2_takingsOf 62 = .ok (.iload 4, 2) := by decide +kernel
theorem dX2_takingsOf_64 : decode cX2_takingsOf 64 = .ok (.iaload, 1) := by decide +kernel
theorem dX2_takingsOf_65 : decode cX2_takingsOf 65 = .ok (.ifCond .eq 45, 3) := by decide +kernel
theorem dX2_takingsOf_68 : decode cX2_takingsOf 68 = .ok (.iload 5, 2) := by decide +kernel
theorem dX2_takingsOf_70 : decode cX2_takingsOf 70 = .ok (.ifCond .gt 6, 3) := by decide +kernel
theorem dX2_takingsOf_73 : decode cX2_takingsOf 73 = .ok (.goto 37, 3) := by decide +kernel
theorem dX2_takingsOf_76 : decode cX2_takingsOf 76 = .ok (.aload_n 0, 1) := by decide +kernel
theorem dX2_takingsOf_77 : decode cX2_takingsOf 77 = .ok (.getfield 27, 3) := by decide +kernel
theorem dX2_takingsOf_80 : decode cX2_takingsOf 80 = .ok (.iload 4, 2) := by decide +kernel
theorem dX2_takingsOf_82 : decode cX2_takingsOf 82 = .ok (.invokevirtual 75, 3) := by decide +kernel
theorem dX2_takingsOf_85 : decode cX2_takingsOf 85 = .ok (.i2l, 1) := by decide +kernel
theorem dX2_takingsOf_86 : decode cX2_takingsOf 86 = .ok (.aload_n 0, 1) := by decide +kernel
theorem dX2_takingsOf_87 : decode cX2_takingsOf 87 = .ok (.getfield 23, 3) := by decide +kernel
theorem dX2_takingsOf_90 : decode cX2_takingsOf 90 = .ok (.i2l, 1) := by decide +kernel
theorem dX2_takingsOf_91 : decode cX2_takingsOf 91 = .ok (.lmul, 1) := by decide +kernel
theorem dX2_takingsOf_92 : decode cX2_takingsOf 92 = .ok (.lstore 6, 2) := by decide +kernel
theorem dX2_takingsOf_94 : decode cX2_takingsOf 94 = .ok (.iload_n 3, 1) := by decide +kernel
theorem dX2_takingsOf_95 : decode cX2_takingsOf 95 = .ok (.lload 6, 2) := by decide +kernel
theorem dX2_takingsOf_97 : decode cX2_takingsOf 97 = .ok (.aload_n 2, 1) := by decide +kernel
theorem dX2_takingsOf_98 : decode cX2_takingsOf 98 = .ok (.iload 4, 2) := by decide +kernel
theorem dX2_takingsOf_100 : decode cX2_takingsOf 100 = .ok (.iaload, 1) := by decide +kernel
theorem dX2_takingsOf_101 : decode cX2_takingsOf 101 = .ok (.i2l, 1) := by decide +kernel
theorem dX2_takingsOf_102 : decode cX2_takingsOf 102 = .ok (.lmul, 1) := by decide +kernel
theorem dX2_takingsOf_103 : decode cX2_takingsOf 103 = .ok (.iload 5, 2) := by decide +kernel
theorem dX2_takingsOf_105 : decode cX2_takingsOf 105 = .ok (.i2l, 1) := by decide +kernel
theorem dX2_takingsOf_106 : decode cX2_takingsOf 106 = .ok (.ldiv, 1) := by decide +kernel
theorem dX2_takingsOf_107 : decode cX2_takingsOf 107 = .ok (.l2i, 1) := by decide +kernel
theorem dX2_takingsOf_108 : decode cX2_takingsOf 108 = .ok (.iadd, 1) := by decide +kernel
theorem dX2_takingsOf_109 : decode cX2_takingsOf 109 = .ok (.istore_n 3, 1) := by decide +kernel
theorem dX2_takingsOf_110 : decode cX2_takingsOf 110 = .ok (.iinc 4 1, 3) := by decide +kernel
theorem dX2_takingsOf_113 : decode cX2_takingsOf 113 = .ok (.goto (-78), 3) := by decide +kernel
theorem dX2_takingsOf_116 : decode cX2_takingsOf 116 = .ok (.iload_n 3, 1) := by decide +kernel
theorem dX2_takingsOf_117 : decode cX2_takingsOf 117 = .ok (.ireturn, 1) := by decide +kernel
theorem dX2_takingsOfOwner_0 : decode cX2_takingsOfOwner 0 = .ok (.iconst 0, 1) := by decide +kernel
theorem dX2_takingsOfOwner_1 : decode cX2_takingsOfOwner 1 = .ok (.istore_n 2, 1) := by decide +kernel
theorem dX2_takingsOfOwner_2 : decode cX2_takingsOfOwner 2 = .ok (.iconst 0, 1) := by decide +kernel
theorem dX2_takingsOfOwner_3 : decode cX2_takingsOfOwner 3 = .ok (.istore_n 3, 1) := by decide +kernel
theorem dX2_takingsOfOwner_4 : decode cX2_takingsOfOwner 4 = .ok (.iload_n 3, 1) := by decide +kernel
theorem dX2_takingsOfOwner_5 : decode cX2_takingsOfOwner 5 = .ok (.aload_n 0, 1) := by decide +kernel
theorem dX2_takingsOfOwner_6 : decode cX2_takingsOfOwner 6 = .ok (.getfield 31, 3) := by decide +kernel
theorem dX2_takingsOfOwner_9 : decode cX2_takingsOfOwner 9 = .ok (.if_icmp .ge 29, 3) := by decide +kernel
theorem dX2_takingsOfOwner_12 : decode cX2_takingsOfOwner 12 = .ok (.aload_n 0, 1) := by decide +kernel
theorem dX2_takingsOfOwner_13 : decode cX2_takingsOfOwner 13 = .ok (.getfield 16, 3) := by decide +kernel
theorem dX2_takingsOfOwner_16 : decode cX2_takingsOfOwner 16 = .ok (.iload_n 3, 1) := by decide +kernel
theorem dX2_takingsOfOwner_17 : decode cX2_takingsOfOwner 17 = .ok (.invokestatic 79, 3) := by decide +kernel
theorem dX2_takingsOfOwner_20 : decode cX2_takingsOfOwner 20 = .ok (.iload_n 1, 1) := by decide +kernel
theorem dX2_takingsOfOwner_21 : decode cX2_takingsOfOwner 21 = .ok (.if_icmp .ne 11, 3) := by decide +kernel
theorem dX2_takingsOfOwner_24 : decode cX2_takingsOfOwner 24 = .ok (.iload_n 2, 1) := by decide +kernel
theorem dX2_takingsOfOwner_25 : decode cX2_takingsOfOwner 25 = .ok (.aload_n 0, 1) := by decide +kernel
theorem dX2_takingsOfOwner_26 : decode cX2_takingsOfOwner 26 = .ok (.iload_n 3, 1) := by decide +kernel
theorem dX2_takingsOfOwner_27 : decode cX2_takingsOfOwner 27 = .ok (.invokevirtual 83, 3) := by decide +kernel
theorem dX2_takingsOfOwner_30 : decode cX2_takingsOfOwner 30 = .ok (.iadd, 1) := by decide +kernel
theorem dX2_takingsOfOwner_31 : decode cX2_takingsOfOwner 31 = .ok (.istore_n 2, 1) := by decide +kernel
theorem dX2_takingsOfOwner_32 : decode cX2_takingsOfOwner 32 = .ok (.iinc 3 1, 3) := by decide +kernel
theorem dX2_takingsOfOwner_35 : decode cX2_takingsOfOwner 35 = .ok (.goto (-31), 3) := by decide +kernel
theorem dX2_takingsOfOwner_38 : decode cX2_takingsOfOwner 38 = .ok (.iload_n 2, 1) := by decide +kernel
theorem dX2_takingsOfOwner_39 : decode cX2_takingsOfOwner 39 = .ok (.ireturn, 1) := by decide +kernel
theorem dX3_init_0 : decode cX3_init 0 = .ok (.aload_n 0, 1) := by decide +kernel
theorem dX3_init_1 : decode cX3_init 1 = .ok (.invokespecial 1, 3) := by decide +kernel
theorem dX3_init_4 : decode cX3_init 4 = .ok (.aload_n 0, 1) := by decide +kernel
theorem dX3_init_5 : decode cX3_init 5 = .ok (.iload_n 1, 1) := by decide +kernel
theorem dX3_init_6 : decode cX3_init 6 = .ok (.putfield 7, 3) := by decide +kernel
theorem dX3_init_9 : decode cX3_init 9 = .ok (.aload_n 0, 1) := by decide +kernel
theorem dX3_init_10 : decode cX3_init 10 = .ok (.iload_n 2, 1) := by decide +kernel
theorem dX3_init_11 : decode cX3_init 11 = .ok (.putfield 13, 3) := by decide +kernel
theorem dX3_init_14 : decode cX3_init 14 = .ok (.aload_n 0, 1) := by decide +kernel
theorem dX3_init_15 : decode cX3_init 15 = .ok (.iload_n 3, 1) := by decide +kernel
theorem dX3_init_16 : decode cX3_init 16 = .ok (.putfield 16, 3) := by decide +kernel
theorem dX3_init_19 : decode cX3_init 19 = .ok (.return_, 1) := by decide +kernel
theorem dX3_fallsShort_0 : decode cX3_fallsShort 0 = .ok (.aload_n 0, 1) := by decide +kernel
theorem dX3_fallsShort_1 : decode cX3_fallsShort 1 = .ok (.getfield 7, 3) := by decide +kernel
theorem dX3_fallsShort_4 : decode cX3_fallsShort 4 = .ok (.aload_n 0, 1) := by decide +kernel
theorem dX3_fallsShort_5 : decode cX3_fallsShort 5 = .ok (.getfield 13, 3) := by decide +kernel
theorem dX3_fallsShort_8 : decode cX3_fallsShort 8 = .ok (.iload_n 1, 1) := by decide +kernel
theorem dX3_fallsShort_9 : decode cX3_fallsShort 9 = .ok (.imul, 1) := by decide +kernel
theorem dX3_fallsShort_10 : decode cX3_fallsShort 10 = .ok (.if_icmp .lt 14, 3) := by decide +kernel
theorem dX3_fallsShort_13 : decode cX3_fallsShort 13 = .ok (.aload_n 0, 1) := by decide +kernel
theorem dX3_fallsShort_14 : decode cX3_fallsShort 14 = .ok (.getfield 7, 3) := by decide +kernel
theorem dX3_fallsShort_17 : decode cX3_fallsShort 17 = .ok (.aload_n 0, 1) := by decide +kernel
theorem dX3_fallsShort_18 : decode cX3_fallsShort 18 = .ok (.getfield 16, 3) := by decide +kernel
theorem dX3_fallsShort_21 : decode cX3_fallsShort 21 = .ok (.if_icmp .ge 7, 3) := by decide +kernel
theorem dX3_fallsShort_24 : decode cX3_fallsShort 24 = .ok (.iconst 1, 1) := by decide +kernel
theorem dX3_fallsShort_25 : decode cX3_fallsShort 25 = .ok (.goto 4, 3) := by decide +kernel
theorem dX3_fallsShort_28 : decode cX3_fallsShort 28 = .ok (.iconst 0, 1) := by decide +kernel
theorem dX3_fallsShort_29 : decode cX3_fallsShort 29 = .ok (.ireturn, 1) := by decide +kernel
theorem dX3_payRoyalty_0 : decode cX3_payRoyalty 0 = .ok (.iload_n 1, 1) := by decide +kernel
theorem dX3_payRoyalty_1 : decode cX3_payRoyalty 1 = .ok (.aload_n 0, 1) := by decide +kernel
theorem dX3_payRoyalty_2 : decode cX3_payRoyalty 2 = .ok (.getfield 19, 3) := by decide +kernel
theorem dX3_payRoyalty_5 : decode cX3_payRoyalty 5 = .ok (.aload_n 0, 1) := by decide +kernel
theorem dX3_payRoyalty_6 : decode cX3_payRoyalty 6 = .ok (.getfield 22, 3) := by decide +kernel
theorem dX3_payRoyalty_9 : decode cX3_payRoyalty 9 = .ok (.isub, 1) := by decide +kernel
theorem dX3_payRoyalty_10 : decode cX3_payRoyalty 10 = .ok (.invokestatic 25, 3) := by decide +kernel
theorem dX3_payRoyalty_13 : decode cX3_payRoyalty 13 = .ok (.istore_n 2, 1) := by decide +kernel
theorem dX3_payRoyalty_14 : decode cX3_payRoyalty 14 = .ok (.aload_n 0, 1) := by decide +kernel
theorem dX3_payRoyalty_15 : decode cX3_payRoyalty 15 = .ok (.dup, 1) := by decide +kernel
theorem dX3_payRoyalty_16 : decode cX3_payRoyalty 16 = .ok (.getfield 22, 3) := by decide +kernel
theorem dX3_payRoyalty_19 : decode cX3_payRoyalty 19 = .ok (.iload_n 2, 1) := by decide +kernel
theorem dX3_payRoyalty_20 : decode cX3_payRoyalty 20 = .ok (.iadd, 1) := by decide +kernel
theorem dX3_payRoyalty_21 : decode cX3_payRoyalty 21 = .ok (.putfield 22, 3) := by decide +kernel
theorem dX3_payRoyalty_24 : decode cX3_payRoyalty 24 = .ok (.iload_n 2, 1) := by decide +kernel
theorem dX3_payRoyalty_25 : decode cX3_payRoyalty 25 = .ok (.ireturn, 1) := by decide +kernel
theorem dX3_payFund_0 : decode cX3_payFund 0 = .ok (.iload_n 1, 1) := by decide +kernel
theorem dX3_payFund_1 : decode cX3_payFund 1 = .ok (.aload_n 0, 1) := by decide +kernel
theorem dX3_payFund_2 : decode cX3_payFund 2 = .ok (.getfield 31, 3) := by decide +kernel
theorem dX3_payFund_5 : decode cX3_payFund 5 = .ok (.aload_n 0, 1) := by decide +kernel
theorem dX3_payFund_6 : decode cX3_payFund 6 = .ok (.getfield 34, 3) := by decide +kernel
theorem dX3_payFund_9 : decode cX3_payFund 9 = .ok (.isub, 1) := by decide +kernel
theorem dX3_payFund_10 : decode cX3_payFund 10 = .ok (.invokestatic 25, 3) := by decide +kernel
theorem dX3_payFund_13 : decode cX3_payFund 13 = .ok (.istore_n 2, 1) := by decide +kernel
theorem dX3_payFund_14 : decode cX3_payFund 14 = .ok (.aload_n 0, 1) := by decide +kernel
theorem dX3_payFund_15 : decode cX3_payFund 15 = .ok (.dup, 1) := by decide +kernel
theorem dX3_payFund_16 : decode cX3_payFund 16 = .ok (.getfield 34, 3) := by decide +kernel
theorem dX3_payFund_19 : decode cX3_payFund 19 = .ok (.iload_n 2, 1) := by decide +kernel
theorem dX3_payFund_20 : decode cX3_payFund 20 = .ok (.iadd, 1) := by decide +kernel
theorem dX3_payFund_21 : decode cX3_payFund 21 = .ok (.putfield 34, 3) := by decide +kernel
theorem dX3_payFund_24 : decode cX3_payFund 24 = .ok (.iload_n 2, 1) := by decide +kernel
theorem dX3_payFund_25 : decode cX3_payFund 25 = .ok (.ireturn, 1) := by decide +kernel
theorem dX4_init_0 : decode cX4_init 0 = .ok (.aload_n 0, 1) := by decide +kernel
theorem dX4_init_1 : decode cX4_init 1 = .ok (.invokespecial 3, 3) := by decide +kernel
theorem dX4_init_4 : decode cX4_init 4 = .ok (.aload_n 0, 1) := by decide +kernel
theorem dX4_init_5 : decode cX4_init 5 = .ok (.bipush 10, 2) := by decide +kernel
theorem dX4_init_7 : decode cX4_init 7 = .ok (.newarray .int, 2) := by decide +kernel
theorem dX4_init_9 : decode cX4_init 9 = .ok (.putfield 9, 3) := by decide +kernel
theorem dX4_init_12 : decode cX4_init 12 = .ok (.aload_n 0, 1) := by decide +kernel
theorem dX4_init_13 : decode cX4_init 13 = .ok (.bipush 10, 2) := by decide +kernel
theorem dX4_init_15 : decode cX4_init 15 = .ok (.newarray .int, 2) := by decide +kernel
theorem dX4_init_17 : decode cX4_init 17 = .ok (.putfield 15, 3) := by decide +kernel
theorem dX4_init_20 : decode cX4_init 20 = .ok (.aload_n 0, 1) := by decide +kernel
theorem dX4_init_21 : decode cX4_init 21 = .ok (.bipush 10, 2) := by decide +kernel
theorem dX4_init_23 : decode cX4_init 23 = .ok (.newarray .int, 2) := by decide +kernel
theorem dX4_init_25 : decode cX4_init 25 = .ok (.putfield 18, 3) := by decide +kernel
theorem dX4_init_28 : decode cX4_init 28 = .ok (.aload_n 0, 1) := by decide +kernel
theorem dX4_init_29 : decode cX4_init 29 = .ok (.bipush 10, 2) := by decide +kernel
theorem dX4_init_31 : decode cX4_init 31 = .ok (.newarray .int, 2) := by decide +kernel
theorem dX4_init_33 : decode cX4_init 33 = .ok (.putfield 21, 3) := by decide +kernel
theorem dX4_init_36 : decode cX4_init 36 = .ok (.aload_n 0, 1) := by decide +kernel
theorem dX4_init_37 : decode cX4_init 37 = .ok (.bipush 10, 2) := by decide +kernel
theorem dX4_init_39 : decode cX4_init 39 = .ok (.newarray .int, 2) := by decide +kernel
theorem dX4_init_41 : decode cX4_init 41 = .ok (.putfield 24, 3) := by decide +kernel
theorem dX4_init_44 : decode cX4_init 44 = .ok (.aload_n 0, 1) := by decide +kernel
theorem dX4_init_45 : decode cX4_init 45 = .ok (.bipush 10, 2) := by decide +kernel
theorem dX4_init_47 : decode cX4_init 47 = .ok (.newarray .int, 2) := by decide +kernel
theorem dX4_init_49 : decode cX4_init 49 = .ok (.putfield 27, 3) := by decide +kernel
theorem dX4_init_52 : decode cX4_init 52 = .ok (.return_, 1) := by decide +kernel
theorem dX4_isListed_0 : decode cX4_isListed 0 = .ok (.iconst 0, 1) := by decide +kernel
theorem dX4_isListed_1 : decode cX4_isListed 1 = .ok (.istore_n 2, 1) := by decide +kernel
theorem dX4_isListed_2 : decode cX4_isListed 2 = .ok (.iload_n 2, 1) := by decide +kernel
theorem dX4_isListed_3 : decode cX4_isListed 3 = .ok (.aload_n 0, 1) := by decide +kernel
theorem dX4_isListed_4 : decode cX4_isListed 4 = .ok (.getfield 30, 3) := by decide +kernel
theorem dX4_isListed_7 : decode cX4_isListed 7 = .ok (.if_icmp .ge 23, 3) := by decide +kernel
theorem dX4_isListed_10 : decode cX4_isListed 10 = .ok (.aload_n 0, 1) := by decide +kernel
theorem dX4_isListed_11 : decode cX4_isListed 11 = .ok (.getfield 9, 3) := by decide +kernel
theorem dX4_isListed_14 : decode cX4_isListed 14 = .ok (.iload_n 2, 1) := by decide +kernel
theorem dX4_isListed_15 : decode cX4_isListed 15 = .ok (.invokestatic 34, 3) := by decide +kernel
theorem dX4_isListed_18 : decode cX4_isListed 18 = .ok (.iload_n 1, 1) := by decide +kernel
theorem dX4_isListed_19 : decode cX4_isListed 19 = .ok (.if_icmp .ne 5, 3) := by decide +kernel
theorem dX4_isListed_22 : decode cX4_isListed 22 = .ok (.iconst 1, 1) := by decide +kernel
theorem dX4_isListed_23 : decode cX4_isListed 23 = .ok (.ireturn, 1) := by decide +kernel
theorem dX4_isListed_24 : decode cX4_isListed 24 = .ok (.iinc 2 1, 3) := by decide +kernel
theorem dX4_isListed_27 : decode cX4_isListed 27 = .ok (.goto (-25), 3) := by decide +kernel
theorem dX4_isListed_30 : decode cX4_isListed 30 = .ok (.iconst 0, 1) := by decide +kernel
theorem dX4_isListed_31 : decode cX4_isListed 31 = .ok (.ireturn, 1) := by decide +kernel
theorem dX4_addLoad_0 : decode cX4_addLoad 0 = .ok (.aload_n 0, 1) := by decide +kernel
theorem dX4_addLoad_1 : decode cX4_addLoad 1 = .ok (.getfield 30, 3) := by decide +kernel
theorem dX4_addLoad_4 : decode cX4_addLoad 4 = .ok (.bipush 10, 2) := by decide +kernel
theorem dX4_addLoad_6 : decode cX4_addLoad 6 = .ok (.if_icmp .lt 6, 3) := by decide +kernel
theorem dX4_addLoad_9 : decode cX4_addLoad 9 = .ok (.bipush (-2), 2) := by decide +kernel
theorem dX4_addLoad_11 : decode cX4_addLoad 11 = .ok (.ireturn, 1) := by decide +kernel
theorem dX4_addLoad_12 : decode cX4_addLoad 12 = .ok (.aload_n 0, 1) := by decide +kernel
theorem dX4_addLoad_13 : decode cX4_addLoad 13 = .ok (.getfield 30, 3) := by decide +kernel
theorem dX4_addLoad_16 : decode cX4_addLoad 16 = .ok (.istore_n 3, 1) := by decide +kernel
theorem dX4_addLoad_17 : decode cX4_addLoad 17 = .ok (.iload_n 3, 1) := by decide +kernel
theorem dX4_addLoad_18 : decode cX4_addLoad 18 = .ok (.ifCond .le 59, 3) := by decide +kernel
theorem dX4_addLoad_21 : decode cX4_addLoad 21 = .ok (.aload_n 0, 1) := by decide +kernel
theorem dX4_addLoad_22 : decode cX4_addLoad 22 = .ok (.getfield 9, 3) := by decide +kernel
theorem dX4_addLoad_25 : decode cX4_addLoad 25 = .ok (.iload_n 3, 1) := by decide +kernel
theorem dX4_addLoad_26 : decode cX4_addLoad 26 = .ok (.iconst 1, 1) := by decide +kernel
theorem dX4_addLoad_27 : decode cX4_addLoad 27 = .ok (.isub, 1) := by decide +kernel
theorem dX4_addLoad_28 : decode cX4_addLoad 28 = .ok (.invokestatic 34, 3) := by decide +kernel
theorem dX4_addLoad_31 : decode cX4_addLoad 31 = .ok (.iload_n 1, 1) := by decide +kernel
theorem dX4_addLoad_32 : decode cX4_addLoad 32 = .ok (.if_icmp .le 45, 3) := by decide +kernel
theorem dX4_addLoad_35 : decode cX4_addLoad 35 = .ok (.aload_n 0, 1) := by decide +kernel
theorem dX4_addLoad_36 : decode cX4_addLoad 36 = .ok (.getfield 9, 3) := by decide +kernel
theorem dX4_addLoad_39 : decode cX4_addLoad 39 = .ok (.iload_n 3, 1) := by decide +kernel
theorem dX4_addLoad_40 : decode cX4_addLoad 40 = .ok (.aload_n 0, 1) := by decide +kernel
theorem dX4_addLoad_41 : decode cX4_addLoad 41 = .ok (.getfield 9, 3) := by decide +kernel
theorem dX4_addLoad_44 : decode cX4_addLoad 44 = .ok (.iload_n 3, 1) := by decide +kernel
theorem dX4_addLoad_45 : decode cX4_addLoad 45 = .ok (.iconst 1, 1) := by decide +kernel
theorem dX4_addLoad_46 : decode cX4_addLoad 46 = .ok (.isub, 1) := by decide +kernel
theorem dX4_addLoad_47 : decode cX4_addLoad 47 = .ok (.invokestatic 34, 3) := by decide +kernel
theorem dX4_addLoad_50 : decode cX4_addLoad 50 = .ok (.invokestatic 38, 3) := by decide +kernel
theorem dX4_addLoad_53 : decode cX4_addLoad 53 = .ok (.aload_n 0, 1) := by decide +kernel
theorem dX4_addLoad_54 : decode cX4_addLoad 54 = .ok (.getfield 15, 3) := by decide +kernel
theorem dX4_addLoad_57 : decode cX4_addLoad 57 = .ok (.iload_n 3, 1) := by decide +kernel
theorem dX4_addLoad_58 : decode cX4_addLoad 58 = .ok (.aload_n 0, 1) := by decide +kernel
theorem dX4_addLoad_59 : decode cX4_addLoad 59 = .ok (.getfield 15, 3) := by decide +kernel
theorem dX4_addLoad_62 : decode cX4_addLoad 62 = .ok (.iload_n 3, 1) := by decide +kernel
theorem dX4_addLoad_63 : decode cX4_addLoad 63 = .ok (.iconst 1, 1) := by decide +kernel
theorem dX4_addLoad_64 : decode cX4_addLoad 64 = .ok (.isub, 1) := by decide +kernel
theorem dX4_addLoad_65 : decode cX4_addLoad 65 = .ok (.invokestatic 34, 3) := by decide +kernel
theorem dX4_addLoad_68 : decode cX4_addLoad 68 = .ok (.invokestatic 38, 3) := by decide +kernel
theorem dX4_addLoad_71 : decode cX4_addLoad 71 = .ok (.iinc 3 (-1), 3) := by decide +kernel
theorem dX4_addLoad_74 : decode cX4_addLoad 74 = .ok (.goto (-57), 3) := by decide +kernel
theorem dX4_addLoad_77 : decode cX4_addLoad 77 = .ok (.aload_n 0, 1) := by decide +kernel
theorem dX4_addLoad_78 : decode cX4_addLoad 78 = .ok (.getfield 9, 3) := by decide +kernel
theorem dX4_addLoad_81 : decode cX4_addLoad 81 = .ok (.iload_n 3, 1) := by decide +kernel
theorem dX4_addLoad_82 : decode cX4_addLoad 82 = .ok (.iload_n 1, 1) := by decide +kernel
theorem dX4_addLoad_83 : decode cX4_addLoad 83 = .ok (.invokestatic 38, 3) := by decide +kernel
theorem dX4_addLoad_86 : decode cX4_addLoad 86 = .ok (.aload_n 0, 1) := by decide +kernel
theorem dX4_addLoad_87 : decode cX4_addLoad 87 = .ok (.getfield 15, 3) := by decide +kernel
theorem dX4_addLoad_90 : decode cX4_addLoad 90 = .ok (.iload_n 3, 1) := by decide +kernel
theorem dX4_addLoad_91 : decode cX4_addLoad 91 = .ok (.iload_n 2, 1) := by decide +kernel
theorem dX4_addLoad_92 : decode cX4_addLoad 92 = .ok (.invokestatic 38, 3) := by decide +kernel
theorem dX4_addLoad_95 : decode cX4_addLoad 95 = .ok (.aload_n 0, 1) := by decide +kernel
theorem dX4_addLoad_96 : decode cX4_addLoad 96 = .ok (.dup, 1) := by decide +kernel
theorem dX4_addLoad_97 : decode cX4_addLoad 97 = .ok (.getfield 30, 3) := by decide +kernel
theorem dX4_addLoad_100 : decode cX4_addLoad 100 = .ok (.iconst 1, 1) := by decide +kernel
theorem dX4_addLoad_101 : decode cX4_addLoad 101 = .ok (.iadd, 1) := by decide +kernel
theorem dX4_addLoad_102 : decode cX4_addLoad 102 = .ok (.putfield 30, 3) := by decide +kernel
theorem dX4_addLoad_105 : decode cX4_addLoad 105 = .ok (.aload_n 0, 1) := by decide +kernel
theorem dX4_addLoad_106 : decode cX4_addLoad 106 = .ok (.getfield 30, 3) := by decide +kernel
theorem dX4_addLoad_109 : decode cX4_addLoad 109 = .ok (.ireturn, 1) := by decide +kernel
theorem dX4_pack_0 : decode cX4_pack 0 = .ok (.aload_n 0, 1) := by decide +kernel
theorem dX4_pack_1 : decode cX4_pack 1 = .ok (.getfield 30, 3) := by decide +kernel
theorem dX4_pack_4 : decode cX4_pack 4 = .ok (.ifCond .ne 6, 3) := by decide +kernel
theorem dX4_pack_7 : decode cX4_pack 7 = .ok (.bipush (-3), 2) := by decide +kernel
theorem dX4_pack_9 : decode cX4_pack 9 = .ok (.ireturn, 1) := by decide +kernel
theorem dX4_pack_10 : decode cX4_pack 10 = .ok (.aload_n 0, 1) := by decide +kernel
theorem dX4_pack_11 : decode cX4_pack 11 = .ok (.iload_n 1, 1) := by decide +kernel
theorem dX4_pack_12 : decode cX4_pack 12 = .ok (.putfield 42, 3) := by decide +kernel
theorem dX4_pack_15 : decode cX4_pack 15 = .ok (.aload_n 0, 1) := by decide +kernel
theorem dX4_pack_16 : decode cX4_pack 16 = .ok (.invokevirtual 45, 3) := by decide +kernel
theorem dX4_pack_19 : decode cX4_pack 19 = .ok (.istore_n 2, 1) := by decide +kernel
theorem dX4_pack_20 : decode cX4_pack 20 = .ok (.iload_n 2, 1) := by decide +kernel
theorem dX4_pack_21 : decode cX4_pack 21 = .ok (.bipush (-4), 2) := by decide +kernel
theorem dX4_pack_23 : decode cX4_pack 23 = .ok (.if_icmp .eq 7, 3) := by decide +kernel
theorem dX4_pack_26 : decode cX4_pack 26 = .ok (.aload_n 0, 1) := by decide +kernel
theorem dX4_pack_27 : decode cX4_pack 27 = .ok (.invokevirtual 49, 3) := by decide +kernel
theorem dX4_pack_30 : decode cX4_pack 30 = .ok (.aload_n 0, 1) := by decide +kernel
theorem dX4_pack_31 : decode cX4_pack 31 = .ok (.iconst 0, 1) := by decide +kernel
theorem dX4_pack_32 : decode cX4_pack 32 = .ok (.putfield 30, 3) := by decide +kernel
theorem dX4_pack_35 : decode cX4_pack 35 = .ok (.iload_n 2, 1) := by decide +kernel
theorem dX4_pack_36 : decode cX4_pack 36 = .ok (.ireturn, 1) := by decide +kernel
theorem dX4_fewestCarts_0 : decode cX4_fewestCarts 0 = .ok (.iconst 1, 1) := by decide +kernel
theorem dX4_fewestCarts_1 : decode cX4_fewestCarts 1 = .ok (.istore_n 1, 1) := by decide +kernel
theorem dX4_fewestCarts_2 : decode cX4_fewestCarts 2 = .ok (.iload_n 1, 1) := by decide +kernel
theorem dX4_fewestCarts_3 : decode cX4_fewestCarts 3 = .ok (.aload_n 0, 1) := by decide +kernel
theorem dX4_fewestCarts_4 : decode cX4_fewestCarts 4 = .ok (.getfield 30, 3) := by decide +kernel
theorem dX4_fewestCarts_7 : decode cX4_fewestCarts 7 = .ok (.if_icmp .gt 45, 3) := by decide +kernel
theorem dX4_fewestCarts_10 : decode cX4_fewestCarts 10 = .ok (.iconst 0, 1) := by decide +kernel
theorem dX4_fewestCarts_11 : decode cX4_fewestCarts 11 = .ok (.istore_n 2, 1) := by decide +kernel
theorem dX4_fewestCarts_12 : decode cX4_fewestCarts 12 = .ok (.iload_n 2, 1) := by decide +kernel
theorem dX4_fewestCarts_13 : decode cX4_fewestCarts 13 = .ok (.aload_n 0, 1) := by decide +kernel
theorem dX4_fewestCarts_14 : decode cX4_fewestCarts 14 = .ok (.getfield 21, 3) := by decide +kernel
theorem dX4_fewestCarts_17 : decode cX4_fewestCarts 17 = .ok (.arraylength, 1) := by decide +kernel
theorem dX4_fewestCarts_18 : decode cX4_fewestCarts 18 = .ok (.if_icmp .ge 16, 3) := by decide +kernel
theorem dX4_fewestCarts_21 : decode cX4_fewestCarts 21 = .ok (.aload_n 0, 1) := by decide +kernel
theorem dX4_fewestCarts_22 : decode cX4_fewestCarts 22 = .ok (.getfield 21, 3) := by decide +kernel
theorem dX4_fewestCarts_25 : decode cX4_fewestCarts 25 = .ok (.iload_n 2, 1) := by decide +kernel
theorem dX4_fewestCarts_26 : decode cX4_fewestCarts 26 = .ok (.iconst 0, 1) := by decide +kernel
theorem dX4_fewestCarts_27 : decode cX4_fewestCarts 27 = .ok (.iastore, 1) := by decide +kernel
theorem dX4_fewestCarts_28 : decode cX4_fewestCarts 28 = .ok (.iinc 2 1, 3) := by decide +kernel
theorem dX4_fewestCarts_31 : decode cX4_fewestCarts 31 = .ok (.goto (-19), 3) := by decide +kernel
theorem dX4_fewestCarts_34 : decode cX4_fewestCarts 34 = .ok (.aload_n 0, 1) := by decide +kernel
theorem dX4_fewestCarts_35 : decode cX4_fewestCarts 35 = .ok (.iconst 0, 1) := by decide +kernel
theorem dX4_fewestCarts_36 : decode cX4_fewestCarts 36 = .ok (.iconst 0, 1) := by decide +kernel
theorem dX4_fewestCarts_37 : decode cX4_fewestCarts 37 = .ok (.iload_n 1, 1) := by decide +kernel
theorem dX4_fewestCarts_38 : decode cX4_fewestCarts 38 = .ok (.invokevirtual 52, 3) := by decide +kernel
theorem dX4_fewestCarts_41 : decode cX4_fewestCarts 41 = .ok (.ifCond .eq 5, 3) := by decide +kernel
theorem dX4_fewestCarts_44 : decode cX4_fewestCarts 44 = .ok (.iload_n 1, 1) := by decide +kernel
theorem dX4_fewestCarts_45 : decode cX4_fewestCarts 45 = .ok (.ireturn, 1) := by decide +kernel
theorem dX4_fewestCarts_46 : decode cX4_fewestCarts 46 = .ok (.iinc 1 1, 3) := by decide +kernel
theorem dX4_fewestCarts_49 : decode cX4_fewestCarts 49 = .ok (.goto (-47), 3) := by decide +kernel
theorem dX4_fewestCarts_52 : decode cX4_fewestCarts 52 = .ok (.bipush (-4), 2) := by decide +kernel
theorem dX4_fewestCarts_54 : decode cX4_fewestCarts 54 = .ok (.ireturn, 1) := by decide +kernel
theorem dX4_canPack_0 : decode cX4_canPack 0 = .ok (.iload_n 1, 1) := by decide +kernel
theorem dX4_canPack_1 : decode cX4_canPack 1 = .ok (.aload_n 0, 1) := by decide +kernel
theorem dX4_canPack_2 : decode cX4_canPack 2 = .ok (.getfield 30, 3) := by decide +kernel
theorem dX4_canPack_5 : decode cX4_canPack 5 = .ok (.if_icmp .ge 9, 3) := by decide +kernel
theorem dX4_canPack_8 : decode cX4_canPack 8 = .ok (.iload_n 1, 1) := by decide +kernel
theorem dX4_canPack_9 : decode cX4_canPack 9 = .ok (.bipush 10, 2) := by decide +kernel
theorem dX4_canPack_11 : decode cX4_canPack 11 = .ok (.if_icmp .lt 5, 3) := by decide +kernel
theorem dX4_canPack_14 : decode cX4_canPack 14 = .ok (.iconst 1, 1) := by decide +kernel
theorem dX4_canPack_15 : decode cX4_canPack 15 = .ok (.ireturn, 1) := by decide +kernel
theorem dX4_canPack_16 : decode cX4_canPack 16 = .ok (.aload_n 0, 1) := by decide +kernel
theorem dX4_canPack_17 : decode cX4_canPack 17 = .ok (.getfield 15, 3) := by decide +kernel
theorem dX4_canPack_20 : decode cX4_canPack 20 = .ok (.iload_n 1, 1) := by decide +kernel
theorem dX4_canPack_21 : decode cX4_canPack 21 = .ok (.invokestatic 34, 3) := by decide +kernel
theorem dX4_canPack_24 : decode cX4_canPack 24 = .ok (.istore 4, 2) := by decide +kernel
theorem dX4_canPack_26 : decode cX4_canPack 26 = .ok (.iconst 0, 1) := by decide +kernel
theorem dX4_canPack_27 : decode cX4_canPack 27 = .ok (.istore 5, 2) := by decide +kernel
theorem dX4_canPack_29 : decode cX4_canPack 29 = .ok (.iload 5, 2) := by decide +kernel
theorem dX4_canPack_31 : decode cX4_canPack 31 = .ok (.iload_n 2, 1) := by decide +kernel
theorem dX4_canPack_32 : decode cX4_canPack 32 = .ok (.if_icmp .gt 110, 3) := by decide +kernel
theorem dX4_canPack_35 : decode cX4_canPack 35 = .ok (.iload 5, 2) := by decide +kernel
theorem dX4_canPack_37 : decode cX4_canPack 37 = .ok (.iload_n 3, 1) := by decide +kernel
theorem dX4_canPack_38 : decode cX4_canPack 38 = .ok (.if_icmp .ge 104, 3) := by decide +kernel
theorem dX4_canPack_41 : decode cX4_canPack 41 = .ok (.aload_n 0, 1) := by decide +kernel
theorem dX4_canPack_42 : decode cX4_canPack 42 = .ok (.getfield 21, 3) := by decide +kernel
theorem dX4_canPack_45 : decode cX4_canPack 45 = .ok (.iload 5, 2) := by decide +kernel
theorem dX4_canPack_47 : decode cX4_canPack 47 = .ok (.invokestatic 34, 3) := by decide +kernel
theorem dX4_canPack_50 : decode cX4_canPack 50 = .ok (.iload 4, 2) := by decide +kernel
theorem dX4_canPack_52 : decode cX4_canPack 52 = .ok (.iadd, 1) := by decide +kernel
theorem dX4_canPack_53 : decode cX4_canPack 53 = .ok (.aload_n 0, 1) := by decide +kernel
theorem dX4_canPack_54 : decode cX4_canPack 54 = .ok (.getfield 42, 3) := by decide +kernel
theorem dX4_canPack_57 : decode cX4_canPack 57 = .ok (.if_icmp .le 6, 3) := by decide +kernel
theorem dX4_canPack_60 : decode cX4_canPack 60 = .ok (.goto 76, 3) := by decide +kernel
theorem dX4_canPack_63 : decode cX4_canPack 63 = .ok (.aload_n 0, 1) := by decide +kernel
theorem dX4_canPack_64 : decode cX4_canPack 64 = .ok (.getfield 21, 3) := by decide +kernel
theorem dX4_canPack_67 : decode cX4_canPack 67 = .ok (.iload 5, 2) := by decide +kernel
theorem dX4_canPack_69 : decode cX4_canPack 69 = .ok (.aload_n 0, 1) := by decide +kernel
theorem dX4_canPack_70 : decode cX4_canPack 70 = .ok (.getfield 21, 3) := by decide +kernel
theorem dX4_canPack_73 : decode cX4_canPack 73 = .ok (.iload 5, 2) := by decide +kernel
theorem dX4_canPack_75 : decode cX4_canPack 75 = .ok (.invokestatic 34, 3) := by decide +kernel
theorem dX4_canPack_78 : decode cX4_canPack 78 = .ok (.iload 4, 2) := by decide +kernel
theorem dX4_canPack_80 : decode cX4_canPack 80 = .ok (.iadd, 1) := by decide +kernel
theorem dX4_canPack_81 : decode cX4_canPack 81 = .ok (.invokestatic 38, 3) := by decide +kernel
theorem dX4_canPack_84 : decode cX4_canPack 84 = .ok (.aload_n 0, 1) := by decide +kernel
theorem dX4_canPack_85 : decode cX4_canPack 85 = .ok (.getfield 18, 3) := by decide +kernel
theorem dX4_canPack_88 : decode cX4_canPack 88 = .ok (.iload_n 1, 1) := by decide +kernel
theorem dX4_canPack_89 : decode cX4_canPack 89 = .ok (.iload 5, 2) := by decide +kernel
theorem dX4_canPack_91 : decode cX4_canPack 91 = .ok (.invokestatic 38, 3) := by decide +kernel
theorem dX4_canPack_94 : decode cX4_canPack 94 = .ok (.aload_n 0, 1) := by decide +kernel
theorem dX4_canPack_95 : decode cX4_canPack 95 = .ok (.iload_n 1, 1) := by decide +kernel
theorem dX4_canPack_96 : decode cX4_canPack 96 = .ok (.iconst 1, 1) := by decide +kernel
theorem dX4_canPack_97 : decode cX4_canPack 97 = .ok (.iadd, 1) := by decide +kernel
theorem dX4_canPack_98 : decode cX4_canPack 98 = .ok (.iload_n 2, 1) := by decide +kernel
theorem dX4_canPack_99 : decode cX4_canPack 99 = .ok (.iload 5, 2) := by decide +kernel
theorem dX4_canPack_101 : decode cX4_canPack 101 = .ok (.iconst 1, 1) := by decide +kernel
theorem dX4_canPack_102 : decode cX4_canPack 102 = .ok (.iadd, 1) := by decide +kernel
theorem dX4_canPack_103 : decode cX4_canPack 103 = .ok (.invokestatic 56, 3) := by decide +kernel
theorem dX4_canPack_106 : decode cX4_canPack 106 = .ok (.iload_n 3, 1) := by decide +kernel
theorem dX4_canPack_107 : decode cX4_canPack 107 = .ok (.invokevirtual 52, 3) := by decide +kernel
theorem dX4_canPack_110 : decode cX4_canPack 110 = .ok (.ifCond .eq 5, 3) := by decide +kernel
theorem dX4_canPack_113 : decode cX4_canPack 113 = .ok (.iconst 1, 1) := by decide +kernel
theorem dX4_canPack_114 : decode cX4_canPack 114 = .ok (.ireturn, 1) := by decide +kernel
theorem dX4_canPack_115 : decode cX4_canPack 115 = .ok (.aload_n 0, 1) := by decide +kernel
theorem dX4_canPack_116 : decode cX4_canPack 116 = .ok (.getfield 21, 3) := by decide +kernel
theorem dX4_canPack_119 : decode cX4_canPack 119 = .ok (.iload 5, 2) := by decide +kernel
theorem dX4_canPack_121 : decode cX4_canPack 121 = .ok (.aload_n 0, 1) := by decide +kernel
theorem dX4_canPack_122 : decode cX4_canPack 122 = .ok (.getfield 21, 3) := by decide +kernel
theorem dX4_canPack_125 : decode cX4_canPack 125 = .ok (.iload 5, 2) := by decide +kernel
theorem dX4_canPack_127 : decode cX4_canPack 127 = .ok (.invokestatic 34, 3) := by decide +kernel
theorem dX4_canPack_130 : decode cX4_canPack 130 = .ok (.iload 4, 2) := by decide +kernel
theorem dX4_canPack_132 : decode cX4_canPack 132 = .ok (.isub, 1) := by decide +kernel
theorem dX4_canPack_133 : decode cX4_canPack 133 = .ok (.invokestatic 38, 3) := by decide +kernel
theorem dX4_canPack_136 : decode cX4_canPack 136 = .ok (.iinc 5 1, 3) := by decide +kernel
theorem dX4_canPack_139 : decode cX4_canPack 139 = .ok (.goto (-110), 3) := by decide +kernel
theorem dX4_canPack_142 : decode cX4_canPack 142 = .ok (.iconst 0, 1) := by decide +kernel
theorem dX4_canPack_143 : decode cX4_canPack 143 = .ok (.ireturn, 1) := by decide +kernel
theorem dX4_keepPacking_0 : decode cX4_keepPacking 0 = .ok (.aload_n 0, 1) := by decide +kernel
theorem dX4_keepPacking_1 : decode cX4_keepPacking 1 = .ok (.aload_n 0, 1) := by decide +kernel
theorem dX4_keepPacking_2 : decode cX4_keepPacking 2 = .ok (.getfield 30, 3) := by decide +kernel
theorem dX4_keepPacking_5 : decode cX4_keepPacking 5 = .ok (.putfield 62, 3) := by decide +kernel
theorem dX4_keepPacking_8 : decode cX4_keepPacking 8 = .ok (.iconst 0, 1) := by decide +kernel
theorem dX4_keepPacking_9 : decode cX4_keepPacking 9 = .ok (.istore_n 1, 1) := by decide +kernel
theorem dX4_keepPacking_10 : decode cX4_keepPacking 10 = .ok (.iload_n 1, 1) := by decide +kernel
theorem dX4_keepPacking_11 : decode cX4_keepPacking 11 = .ok (.aload_n 0, 1) := by decide +kernel
theorem dX4_keepPacking_12 : decode cX4_keepPacking 12 = .ok (.getfield 30, 3) := by decide +kernel
theorem dX4_keepPacking_15 : decode cX4_keepPacking 15 = .ok (.if_icmp .ge 41, 3) := by decide +kernel
theorem dX4_keepPacking_18 : decode cX4_keepPacking 18 = .ok (.aload_n 0, 1) := by decide +kernel
theorem dX4_keepPacking_19 : decode cX4_keepPacking 19 = .ok (.getfield 24, 3) := by decide +kernel
theorem dX4_keepPacking_22 : decode cX4_keepPacking 22 = .ok (.iload_n 1, 1) := by decide +kernel
theorem dX4_keepPacking_23 : decode cX4_keepPacking 23 = .ok (.aload_n 0, 1) := by decide +kernel
theorem dX4_keepPacking_24 : decode cX4_keepPacking 24 = .ok (.getfield 9, 3) := by decide +kernel
theorem dX4_keepPacking_27 : decode cX4_keepPacking 27 = .ok (.iload_n 1, 1) := by decide +kernel
theorem dX4_keepPacking_28 : decode cX4_keepPacking 28 = .ok (.invokestatic 34, 3) := by decide +kernel
theorem dX4_keepPacking_31 : decode cX4_keepPacking 31 = .ok (.invokestatic 38, 3) := by decide +kernel
theorem dX4_keepPacking_34 : decode cX4_keepPacking 34 = .ok (.aload_n 0, 1) := by decide +kernel
theorem dX4_keepPacking_35 : decode cX4_keepPacking 35 = .ok (.getfield 27, 3) := by decide +kernel
theorem dX4_keepPacking_38 : decode cX4_keepPacking 38 = .ok (.iload_n 1, 1) := by decide +kernel
theorem dX4_keepPacking_39 : decode cX4_keepPacking 39 = .ok (.aload_n 0, 1) := by decide +kernel
theorem dX4_keepPacking_40 : decode cX4_keepPacking 40 = .ok (.getfield 18, 3) := by decide +kernel
theorem dX4_keepPacking_43 : decode cX4_keepPacking 43 = .ok (.iload_n 1, 1) := by decide +kernel
theorem dX4_keepPacking_44 : decode cX4_keepPacking 44 = .ok (.invokestatic 34, 3) := by decide +kernel
theorem dX4_keepPacking_47 : decode cX4_keepPacking 47 = .ok (.invokestatic 38, 3) := by decide +kernel
theorem dX4_keepPacking_50 : decode cX4_keepPacking 50 = .ok (.iinc 1 1, 3) := by decide +kernel
theorem dX4_keepPacking_53 : decode cX4_keepPacking 53 = .ok (.goto (-43), 3) := by decide +kernel
theorem dX4_keepPacking_56 : decode cX4_keepPacking 56 = .ok (.return_, 1) := by decide +kernel
theorem dX4_cartOf_0 : decode cX4_cartOf 0 = .ok (.iconst 0, 1) := by decide +kernel
theorem dX4_cartOf_1 : decode cX4_cartOf 1 = .ok (.istore_n 2, 1) := by decide +kernel
theorem dX4_cartOf_2 : decode cX4_cartOf 2 = .ok (.iload_n 2, 1) := by decide +kernel
theorem dX4_cartOf_3 : decode cX4_cartOf 3 = .ok (.aload_n 0, 1) := by decide +kernel
theorem dX4_cartOf_4 : decode cX4_cartOf 4 = .ok (.getfield 62, 3) := by decide +kernel
theorem dX4_cartOf_7 : decode cX4_cartOf 7 = .ok (.if_icmp .ge 30, 3) := by decide +kernel
theorem dX4_cartOf_10 : decode cX4_cartOf 10 = .ok (.aload_n 0, 1) := by decide +kernel
theorem dX4_cartOf_11 : decode cX4_cartOf 11 = .ok (.getfield 24, 3) := by decide +kernel
theorem dX4_cartOf_14 : decode cX4_cartOf 14 = .ok (.iload_n 2, 1) := by decide +kernel
theorem dX4_cartOf_15 : decode cX4_cartOf 15 = .ok (.invokestatic 34, 3) := by decide +kernel
theorem dX4_cartOf_18 : decode cX4_cartOf 18 = .ok (.iload_n 1, 1) := by decide +kernel
theorem dX4_cartOf_19 : decode cX4_cartOf 19 = .ok (.if_icmp .ne 12, 3) := by decide +kernel
theorem dX4_cartOf_22 : decode cX4_cartOf 22 = .ok (.aload_n 0, 1) := by decide +kernel
theorem dX4_cartOf_23 : decode cX4_cartOf 23 = .ok (.getfield 27, 3) := by decide +kernel
theorem dX4_cartOf_26 : decode cX4_cartOf 26 = .ok (.iload_n 2, 1) := by decide +kernel
theorem dX4_cartOf_27 : decode cX4_cartOf 27 = .ok (.invokestatic 34, 3) := by decide +kernel
theorem dX4_cartOf_30 : decode cX4_cartOf 30 = .ok (.ireturn, 1) := by decide +kernel
theorem dX4_cartOf_31 : decode cX4_cartOf 31 = .ok (.iinc 2 1, 3) := by decide +kernel
theorem dX4_cartOf_34 : decode cX4_cartOf 34 = .ok (.goto (-32), 3) := by decide +kernel
theorem dX4_cartOf_37 : decode cX4_cartOf 37 = .ok (.iconst (-1), 1) := by decide +kernel
theorem dX4_cartOf_38 : decode cX4_cartOf 38 = .ok (.ireturn, 1) := by decide +kernel
theorem dX5_init_0 : decode cX5_init 0 = .ok (.aload_n 0, 1) := by decide +kernel
theorem dX5_init_1 : decode cX5_init 1 = .ok (.invokespecial 3, 3) := by decide +kernel
theorem dX5_init_4 : decode cX5_init 4 = .ok (.aload_n 0, 1) := by decide +kernel
theorem dX5_init_5 : decode cX5_init 5 = .ok (.bipush 120, 2) := by decide +kernel
theorem dX5_init_7 : decode cX5_init 7 = .ok (.newarray .int, 2) := by decide +kernel
theorem dX5_init_9 : decode cX5_init 9 = .ok (.putfield 9, 3) := by decide +kernel
theorem dX5_init_12 : decode cX5_init 12 = .ok (.return_, 1) := by decide +kernel
theorem dX5_read_0 : decode cX5_read 0 = .ok (.aload_n 0, 1) := by decide +kernel
theorem dX5_read_1 : decode cX5_read 1 = .ok (.aload_n 1, 1) := by decide +kernel
theorem dX5_read_2 : decode cX5_read 2 = .ok (.putfield 9, 3) := by decide +kernel
theorem dX5_read_5 : decode cX5_read 5 = .ok (.aload_n 0, 1) := by decide +kernel
theorem dX5_read_6 : decode cX5_read 6 = .ok (.iload_n 2, 1) := by decide +kernel
theorem dX5_read_7 : decode cX5_read 7 = .ok (.putfield 15, 3) := by decide +kernel
theorem dX5_read_10 : decode cX5_read 10 = .ok (.aload_n 0, 1) := by decide +kernel
theorem dX5_read_11 : decode cX5_read 11 = .ok (.iconst 0, 1) := by decide +kernel
theorem dX5_read_12 : decode cX5_read 12 = .ok (.putfield 19, 3) := by decide +kernel
theorem dX5_read_15 : decode cX5_read 15 = .ok (.aload_n 0, 1) := by decide +kernel
theorem dX5_read_16 : decode cX5_read 16 = .ok (.iconst 0, 1) := by decide +kernel
theorem dX5_read_17 : decode cX5_read 17 = .ok (.putfield 22, 3) := by decide +kernel
theorem dX5_read_20 : decode cX5_read 20 = .ok (.iconst 0, 1) := by decide +kernel
theorem dX5_read_21 : decode cX5_read 21 = .ok (.istore_n 3, 1) := by decide +kernel
theorem dX5_read_22 : decode cX5_read 22 = .ok (.iconst 0, 1) := by decide +kernel
theorem dX5_read_23 : decode cX5_read 23 = .ok (.istore 4, 2) := by decide +kernel
theorem dX5_read_25 : decode cX5_read 25 = .ok (.iconst 0, 1) := by decide +kernel
theorem dX5_read_26 : decode cX5_read 26 = .ok (.istore 5, 2) := by decide +kernel
theorem dX5_read_28 : decode cX5_read 28 = .ok (.iload 5, 2) := by decide +kernel
theorem dX5_read_30 : decode cX5_read 30 = .ok (.iload_n 2, 1) := by decide +kernel
theorem dX5_read_31 : decode cX5_read 31 = .ok (.if_icmp .gt 129, 3) := by decide +kernel
theorem dX5_read_34 : decode cX5_read 34 = .ok (.aload_n 0, 1) := by decide +kernel
theorem dX5_read_35 : decode cX5_read 35 = .ok (.getfield 22, 3) := by decide +kernel
theorem dX5_read_38 : decode cX5_read 38 = .ok (.ifCond .ne 122, 3) := by decide +kernel
theorem dX5_read_41 : decode cX5_read 41 = .ok (.aload_n 0, 1) := by decide +kernel
theorem dX5_read_42 : decode cX5_read 42 = .ok (.iconst 0, 1) := by decide +kernel
theorem dX5_read_43 : decode cX5_read 43 = .ok (.invokevirtual 26, 3) := by decide +kernel
theorem dX5_read_46 : decode cX5_read 46 = .ok (.istore 6, 2) := by decide +kernel
theorem dX5_read_48 : decode cX5_read 48 = .ok (.iconst 1, 1) := by decide +kernel
theorem dX5_read_49 : decode cX5_read 49 = .ok (.istore 7, 2) := by decide +kernel
theorem dX5_read_51 : decode cX5_read 51 = .ok (.aload_n 0, 1) := by decide +kernel
theorem dX5_read_52 : decode cX5_read 52 = .ok (.invokevirtual 30, 3) := by decide +kernel
theorem dX5_read_55 : decode cX5_read 55 = .ok (.istore 8, 2) := by decide +kernel
theorem dX5_read_57 : decode cX5_read 57 = .ok (.aload_n 0, 1) := by decide +kernel
theorem dX5_read_58 : decode cX5_read 58 = .ok (.getfield 22, 3) := by decide +kernel
theorem dX5_read_61 : decode cX5_read 61 = .ok (.ifCond .ne 61, 3) := by decide +kernel
theorem dX5_read_64 : decode cX5_read 64 = .ok (.iload 8, 2) := by decide +kernel
theorem dX5_read_66 : decode cX5_read 66 = .ok (.bipush 60, 2) := by decide +kernel
theorem dX5_read_68 : decode cX5_read 68 = .ok (.if_icmp .eq 17, 3) := by decide +kernel
theorem dX5_read_71 : decode cX5_read 71 = .ok (.iload 8, 2) := by decide +kernel
theorem dX5_read_73 : decode cX5_read 73 = .ok (.bipush 61, 2) := by decide +kernel
theorem dX5_read_75 : decode cX5_read 75 = .ok (.if_icmp .eq 10, 3) := by decide +kernel
theorem dX5_read_78 : decode cX5_read 78 = .ok (.iload 8, 2) := by decide +kernel
theorem dX5_read_80 : decode cX5_read 80 = .ok (.bipush 62, 2) := by decide +kernel
theorem dX5_read_82 : decode cX5_read 82 = .ok (.if_icmp .ne 40, 3) := by decide +kernel
theorem dX5_read_85 : decode cX5_read 85 = .ok (.aload_n 0, 1) := by decide +kernel
theorem dX5_read_86 : decode cX5_read 86 = .ok (.dup, 1) := by decide +kernel
theorem dX5_read_87 : decode cX5_read 87 = .ok (.getfield 19, 3) := by decide +kernel
theorem dX5_read_90 : decode cX5_read 90 = .ok (.iconst 1, 1) := by decide +kernel
theorem dX5_read_91 : decode cX5_read 91 = .ok (.iadd, 1) := by decide +kernel
theorem dX5_read_92 : decode cX5_read 92 = .ok (.putfield 19, 3) := by decide +kernel
theorem dX5_read_95 : decode cX5_read 95 = .ok (.iload 6, 2) := by decide +kernel
theorem dX5_read_97 : decode cX5_read 97 = .ok (.iload 8, 2) := by decide +kernel
theorem dX5_read_99 : decode cX5_read 99 = .ok (.aload_n 0, 1) := by decide +kernel
theorem dX5_read_100 : decode cX5_read 100 = .ok (.iconst 0, 1) := by decide +kernel
theorem dX5_read_101 : decode cX5_read 101 = .ok (.invokevirtual 26, 3) := by decide +kernel
theorem dX5_read_104 : decode cX5_read 104 = .ok (.invokestatic 34, 3) := by decide +kernel
theorem dX5_read_107 : decode cX5_read 107 = .ok (.istore 7, 2) := by decide +kernel
theorem dX5_read_109 : decode cX5_read 109 = .ok (.aload_n 0, 1) := by decide +kernel
theorem dX5_read_110 : decode cX5_read 110 = .ok (.bipush 44, 2) := by decide +kernel
theorem dX5_read_112 : decode cX5_read 112 = .ok (.invokevirtual 38, 3) := by decide +kernel
theorem dX5_read_115 : decode cX5_read 115 = .ok (.aload_n 0, 1) := by decide +kernel
theorem dX5_read_116 : decode cX5_read 116 = .ok (.iconst 0, 1) := by decide +kernel
theorem dX5_read_117 : decode cX5_read 117 = .ok (.invokevirtual 26, 3) := by decide +kernel
theorem dX5_read_120 : decode cX5_read 120 = .ok (.istore 6, 2) := by decide +kernel
theorem dX5_read_122 : decode cX5_read 122 = .ok (.iload 7, 2) := by decide +kernel
theorem dX5_read_124 : decode cX5_read 124 = .ok (.ifCond .eq 13, 3) := by decide +kernel
theorem dX5_read_127 : decode cX5_read 127 = .ok (.iload_n 3, 1) := by decide +kernel
theorem dX5_read_128 : decode cX5_read 128 = .ok (.ifCond .ne 9, 3) := by decide +kernel
theorem dX5_read_131 : decode cX5_read 131 = .ok (.iload 6, 2) := by decide +kernel
theorem dX5_read_133 : decode cX5_read 133 = .ok (.istore 4, 2) := by decide +kernel
theorem dX5_read_135 : decode cX5_read 135 = .ok (.iconst 1, 1) := by decide +kernel
theorem dX5_read_136 : decode cX5_read 136 = .ok (.istore_n 3, 1) := by decide +kernel
theorem dX5_read_137 : decode cX5_read 137 = .ok (.aload_n 0, 1) := by decide +kernel
theorem dX5_read_138 : decode cX5_read 138 = .ok (.invokevirtual 30, 3) := by decide +kernel
theorem dX5_read_141 : decode cX5_read 141 = .ok (.iconst (-1), 1) := by decide +kernel
theorem dX5_read_142 : decode cX5_read 142 = .ok (.if_icmp .ne 6, 3) := by decide +kernel
theorem dX5_read_145 : decode cX5_read 145 = .ok (.goto 15, 3) := by decide +kernel
theorem dX5_read_148 : decode cX5_read 148 = .ok (.aload_n 0, 1) := by decide +kernel
theorem dX5_read_149 : decode cX5_read 149 = .ok (.bipush 59, 2) := by decide +kernel
theorem dX5_read_151 : decode cX5_read 151 = .ok (.invokevirtual 38, 3) := by decide +kernel
theorem dX5_read_154 : decode cX5_read 154 = .ok (.iinc 5 1, 3) := by decide +kernel
theorem dX5_read_157 : decode cX5_read 157 = .ok (.goto (-129), 3) := by decide +kernel
theorem dX5_read_160 : decode cX5_read 160 = .ok (.iload 4, 2) := by decide +kernel
theorem dX5_read_162 : decode cX5_read 162 = .ok (.ireturn, 1) := by decide +kernel
theorem dX5_next_0 : decode cX5_next 0 = .ok (.aload_n 0, 1) := by decide +kernel
theorem dX5_next_1 : decode cX5_next 1 = .ok (.getfield 19, 3) := by decide +kernel
theorem dX5_next_4 : decode cX5_next 4 = .ok (.ifCond .lt 38, 3) := by decide +kernel
theorem dX5_next_7 : decode cX5_next 7 = .ok (.aload_n 0, 1) := by decide +kernel
theorem dX5_next_8 : decode cX5_next 8 = .ok (.getfield 19, 3) := by decide +kernel
theorem dX5_next_11 : decode cX5_next 11 = .ok (.aload_n 0, 1) := by decide +kernel
theorem dX5_next_12 : decode cX5_next 12 = .ok (.getfield 15, 3) := by decide +kernel
theorem dX5_next_15 : decode cX5_next 15 = .ok (.if_icmp .ge 27, 3) := by decide +kernel
theorem dX5_next_18 : decode cX5_next 18 = .ok (.aload_n 0, 1) := by decide +kernel
theorem dX5_next_19 : decode cX5_next 19 = .ok (.getfield 19, 3) := by decide +kernel
theorem dX5_next_22 : decode cX5_next 22 = .ok (.aload_n 0, 1) := by decide +kernel
theorem dX5_next_23 : decode cX5_next 23 = .ok (.getfield 9, 3) := by decide +kernel
theorem dX5_next_26 : decode cX5_next 26 = .ok (.arraylength, 1) := by decide +kernel
theorem dX5_next_27 : decode cX5_next 27 = .ok (.if_icmp .ge 15, 3) := by decide +kernel
theorem dX5_next_30 : decode cX5_next 30 = .ok (.aload_n 0, 1) := by decide +kernel
theorem dX5_next_31 : decode cX5_next 31 = .ok (.getfield 9, 3) := by decide +kernel
theorem dX5_next_34 : decode cX5_next 34 = .ok (.aload_n 0, 1) := by decide +kernel
theorem dX5_next_35 : decode cX5_next 35 = .ok (.getfield 19, 3) := by decide +kernel
theorem dX5_next_38 : decode cX5_next 38 = .ok (.iaload, 1) := by decide +kernel
theorem dX5_next_39 : decode cX5_next 39 = .ok (.goto 4, 3) := by decide +kernel
theorem dX5_next_42 : decode cX5_next 42 = .ok (.iconst (-1), 1) := by decide +kernel
theorem dX5_next_43 : decode cX5_next 43 = .ok (.ireturn, 1) := by decide +kernel
theorem dX5_expect_0 : decode cX5_expect 0 = .ok (.aload_n 0, 1) := by decide +kernel
theorem dX5_expect_1 : decode cX5_expect 1 = .ok (.getfield 22, 3) := by decide +kernel
theorem dX5_expect_4 : decode cX5_expect 4 = .ok (.ifCond .eq 4, 3) := by decide +kernel
theorem dX5_expect_7 : decode cX5_expect 7 = .ok (.return_, 1) := by decide +kernel
theorem dX5_expect_8 : decode cX5_expect 8 = .ok (.aload_n 0, 1) := by decide +kernel
theorem dX5_expect_9 : decode cX5_expect 9 = .ok (.invokevirtual 30, 3) := by decide +kernel
theorem dX5_expect_12 : decode cX5_expect 12 = .ok (.iload_n 1, 1) := by decide +kernel
theorem dX5_expect_13 : decode cX5_expect 13 = .ok (.if_icmp .ne 16, 3) := by decide +kernel
theorem dX5_expect_16 : decode cX5_expect 16 = .ok (.aload_n 0, 1) := by decide +kernel
theorem dX5_expect_17 : decode cX5_expect 17 = .ok (.dup, 1) := by decide +kernel
theorem dX5_expect_18 : decode cX5_expect 18 = .ok (.getfield 19, 3) := by decide +kernel
theorem dX5_expect_21 : decode cX5_expect 21 = .ok (.iconst 1, 1) := by decide +kernel
theorem dX5_expect_22 : decode cX5_expect 22 = .ok (.iadd, 1) := by decide +kernel
theorem dX5_expect_23 : decode cX5_expect 23 = .ok (.putfield 19, 3) := by decide +kernel
theorem dX5_expect_26 : decode cX5_expect 26 = .ok (.goto 8, 3) := by decide +kernel
theorem dX5_expect_29 : decode cX5_expect 29 = .ok (.aload_n 0, 1) := by decide +kernel
theorem dX5_expect_30 : decode cX5_expect 30 = .ok (.iconst 1, 1) := by decide +kernel
theorem dX5_expect_31 : decode cX5_expect 31 = .ok (.putfield 22, 3) := by decide +kernel
theorem dX5_expect_34 : decode cX5_expect 34 = .ok (.return_, 1) := by decide +kernel
theorem dX5_compare_0 : decode cX5_compare 0 = .ok (.iload_n 1, 1) := by decide +kernel
theorem dX5_compare_1 : decode cX5_compare 1 = .ok (.bipush 60, 2) := by decide +kernel
theorem dX5_compare_3 : decode cX5_compare 3 = .ok (.if_icmp .ne 16, 3) := by decide +kernel
theorem dX5_compare_6 : decode cX5_compare 6 = .ok (.iload_n 0, 1) := by decide +kernel
theorem dX5_compare_7 : decode cX5_compare 7 = .ok (.iload_n 2, 1) := by decide +kernel
theorem dX5_compare_8 : decode cX5_compare 8 = .ok (.if_icmp .ge 7, 3) := by decide +kernel
theorem dX5_compare_11 : decode cX5_compare 11 = .ok (.iconst 1, 1) := by decide +kernel
theorem dX5_compare_12 : decode cX5_compare 12 = .ok (.goto 36, 3) := by decide +kernel
theorem dX5_compare_15 : decode cX5_compare 15 = .ok (.iconst 0, 1) := by decide +kernel
theorem dX5_compare_16 : decode cX5_compare 16 = .ok (.goto 32, 3) := by decide +kernel
theorem dX5_compare_19 : decode cX5_compare 19 = .ok (.iload_n 1, 1) := by decide +kernel
theorem dX5_compare_20 : decode cX5_compare 20 = .ok (.bipush 62, 2) := by decide +kernel
theorem dX5_compare_22 : decode cX5_compare 22 = .ok (.if_icmp .ne 16, 3) := by decide +kernel
theorem dX5_compare_25 : decode cX5_compare 25 = .ok (.iload_n 0, 1) := by decide +kernel
theorem dX5_compare_26 : decode cX5_compare 26 = .ok (.iload_n 2, 1) := by decide +kernel
theorem dX5_compare_27 : decode cX5_compare 27 = .ok (.if_icmp .le 7, 3) := by decide +kernel
theorem dX5_compare_30 : decode cX5_compare 30 = .ok (.iconst 1, 1) := by decide +kernel
theorem dX5_compare_31 : decode cX5_compare 31 = .ok (.goto 17, 3) := by decide +kernel
theorem dX5_compare_34 : decode cX5_compare 34 = .ok (.iconst 0, 1) := by decide +kernel
theorem dX5_compare_35 : decode cX5_compare 35 = .ok (.goto 13, 3) := by decide +kernel
theorem dX5_compare_38 : decode cX5_compare 38 = .ok (.iload_n 0, 1) := by decide +kernel
theorem dX5_compare_39 : decode cX5_compare 39 = .ok (.iload_n 2, 1) := by decide +kernel
theorem dX5_compare_40 : decode cX5_compare 40 = .ok (.if_icmp .ne 7, 3) := by decide +kernel
theorem dX5_compare_43 : decode cX5_compare 43 = .ok (.iconst 1, 1) := by decide +kernel
theorem dX5_compare_44 : decode cX5_compare 44 = .ok (.goto 4, 3) := by decide +kernel
theorem dX5_compare_47 : decode cX5_compare 47 = .ok (.iconst 0, 1) := by decide +kernel
theorem dX5_compare_48 : decode cX5_compare 48 = .ok (.ireturn, 1) := by decide +kernel
theorem dX5_readSum_0 : decode cX5_readSum 0 = .ok (.aload_n 0, 1) := by decide +kernel
theorem dX5_readSum_1 : decode cX5_readSum 1 = .ok (.iload_n 1, 1) := by decide +kernel
theorem dX5_readSum_2 : decode cX5_readSum 2 = .ok (.invokevirtual 42, 3) := by decide +kernel
theorem dX5_readSum_5 : decode cX5_readSum 5 = .ok (.istore_n 2, 1) := by decide +kernel
theorem dX5_readSum_6 : decode cX5_readSum 6 = .ok (.iconst 0, 1) := by decide +kernel
theorem dX5_readSum_7 : decode cX5_readSum 7 = .ok (.istore_n 3, 1) := by decide +kernel
theorem dX5_readSum_8 : decode cX5_readSum 8 = .ok (.iload_n 3, 1) := by decide +kernel
theorem dX5_readSum_9 : decode cX5_readSum 9 = .ok (.aload_n 0, 1) := by decide +kernel
theorem dX5_readSum_10 : decode cX5_readSum 10 = .ok (.getfield 15, 3) := by decide +kernel
theorem dX5_readSum_13 : decode cX5_readSum 13 = .ok (.if_icmp .ge 75, 3) := by decide +kernel
theorem dX5_readSum_16 : decode cX5_readSum 16 = .ok (.aload_n 0, 1) := by decide +kernel
theorem dX5_readSum_17 : decode cX5_readSum 17 = .ok (.getfield 22, 3) := by decide +kernel
theorem dX5_readSum_20 : decode cX5_readSum 20 = .ok (.ifCond .ne 68, 3) := by decide +kernel
theorem dX5_readSum_23 : decode cX5_readSum 23 = .ok (.aload_n 0, 1) := by decide +kernel
theorem dX5_readSum_24 : decode cX5_readSum 24 = .ok (.invokevirtual 30, 3) := by decide +kernel
theorem dX5_readSum_27 : decode cX5_readSum 27 = .ok (.istore 4, 2) := by decide +kernel
theorem dX5_readSum_29 : decode cX5_readSum 29 = .ok (.iload 4, 2) := by decide +kernel
theorem dX5_readSum_31 : decode cX5_readSum 31 = .ok (.bipush 43, 2) := by decide +kernel
theorem dX5_readSum_33 : decode cX5_readSum 33 = .ok (.if_icmp .eq 13, 3) := by decide +kernel
theorem dX5_readSum_36 : decode cX5_readSum 36 = .ok (.iload 4, 2) := by decide +kernel
theorem dX5_readSum_38 : decode cX5_readSum 38 = .ok (.bipush 45, 2) := by decide +kernel
theorem dX5_readSum_40 : decode cX5_readSum 40 = .ok (.if_icmp .eq 6, 3) := by decide +kernel
theorem dX5_readSum_43 : decode cX5_readSum 43 = .ok (.goto 45, 3) := by decide +kernel
theorem dX5_readSum_46 : decode cX5_readSum 46 = .ok (.aload_n 0, 1) := by decide +kernel
theorem dX5_readSum_47 : decode cX5_readSum 47 = .ok (.dup, 1) := by decide +kernel
theorem dX5_readSum_48 : decode cX5_readSum 48 = .ok (.getfield 19, 3) := by decide +kernel
theorem dX5_readSum_51 : decode cX5_readSum 51 = .ok (.iconst 1, 1) := by decide +kernel
theorem dX5_readSum_52 : decode cX5_readSum 52 = .ok (.iadd, 1) := by decide +kernel
theorem dX5_readSum_53 : decode cX5_readSum 53 = .ok (.putfield 19, 3) := by decide +kernel
theorem dX5_readSum_56 : decode cX5_readSum 56 = .ok (.aload_n 0, 1) := by decide +kernel
theorem dX5_readSum_57 : decode cX5_readSum 57 = .ok (.iload_n 1, 1) := by decide +kernel
theorem dX5_readSum_58 : decode cX5_readSum 58 = .ok (.invokevirtual 42, 3) := by decide +kernel
theorem dX5_readSum_61 : decode cX5_readSum 61 = .ok (.istore 5, 2) := by decide +kernel
theorem dX5_readSum_63 : decode cX5_readSum 63 = .ok (.iload 4, 2) := by decide +kernel
theorem dX5_readSum_65 : decode cX5_readSum 65 = .ok (.bipush 43, 2) := by decide +kernel
theorem dX5_readSum_67 : decode cX5_readSum 67 = .ok (.if_icmp .ne 10, 3) := by decide +kernel
theorem dX5_readSum_70 : decode cX5_readSum 70 = .ok (.iload_n 2, 1) := by decide +kernel
theorem dX5_readSum_71 : decode cX5_readSum 71 = .ok (.iload 5, 2) := by decide +kernel
theorem dX5_readSum_73 : decode cX5_readSum 73 = .ok (.iadd, 1) := by decide +kernel
theorem dX5_readSum_74 : decode cX5_readSum 74 = .ok (.goto 7, 3) := by decide +kernel
theorem dX5_readSum_77 : decode cX5_readSum 77 = .ok (.iload_n 2, 1) := by decide +kernel
theorem dX5_readSum_78 : decode cX5_readSum 78 = .ok (.iload 5, 2) := by decide +kernel
theorem dX5_readSum_80 : decode cX5_readSum 80 = .ok (.isub, 1) := by decide +kernel
theorem dX5_readSum_81 : decode cX5_readSum 81 = .ok (.istore_n 2, 1) := by decide +kernel
theorem dX5_readSum_82 : decode cX5_readSum 82 = .ok (.iinc 3 1, 3) := by decide +kernel
theorem dX5_readSum_85 : decode cX5_readSum 85 = .ok (.goto (-77), 3) := by decide +kernel
theorem dX5_readSum_88 : decode cX5_readSum 88 = .ok (.iload_n 2, 1) := by decide +kernel
theorem dX5_readSum_89 : decode cX5_readSum 89 = .ok (.ireturn, 1) := by decide +kernel
theorem dX5_readProduct_0 : decode cX5_readProduct 0 = .ok (.aload_n 0, 1) := by decide +kernel
theorem dX5_readProduct_1 : decode cX5_readProduct 1 = .ok (.iload_n 1, 1) := by decide +kernel
theorem dX5_readProduct_2 : decode cX5_readProduct 2 = .ok (.invokevirtual 45, 3) := by decide +kernel
theorem dX5_readProduct_5 : decode cX5_readProduct 5 = .ok (.istore_n 2, 1) := by decide +kernel
theorem dX5_readProduct_6 : decode cX5_readProduct 6 = .ok (.iconst 0, 1) := by decide +kernel
theorem dX5_readProduct_7 : decode cX5_readProduct 7 = .ok (.istore_n 3, 1) := by decide +kernel
theorem dX5_readProduct_8 : decode cX5_readProduct 8 = .ok (.iload_n 3, 1) := by decide +kernel
theorem dX5_readProduct_9 : decode cX5_readProduct 9 = .ok (.aload_n 0, 1) := by decide +kernel
theorem dX5_readProduct_10 : decode cX5_readProduct 10 = .ok (.getfield 15, 3) := by decide +kernel
theorem dX5_readProduct_13 : decode cX5_readProduct 13 = .ok (.if_icmp .ge 77, 3) := by decide +kernel
theorem dX5_readProduct_16 : decode cX5_readProduct 16 = .ok (.aload_n 0, 1) := by decide +kernel
theorem dX5_readProduct_17 : decode cX5_readProduct 17 = .ok (.getfield 22, 3) := by decide +kernel
theorem dX5_readProduct_20 : decode cX5_readProduct 20 = .ok (.ifCond .ne 70, 3) := by decide +kernel
theorem dX5_readProduct_23 : decode cX5_readProduct 23 = .ok (.aload_n 0, 1) := by decide +kernel
theorem dX5_readProduct_24 : decode cX5_readProduct 24 = .ok (.invokevirtual 30, 3) := by decide +kernel
theorem dX5_readProduct_27 : decode cX5_readProduct 27 = .ok (.istore 4, 2) := by decide +kernel
theorem dX5_readProduct_29 : decode cX5_readProduct 29 = .ok (.iload 4, 2) := by decide +kernel
theorem dX5_readProduct_31 : decode cX5_readProduct 31 = .ok (.bipush 42, 2) := by decide +kernel
theorem dX5_readProduct_33 : decode cX5_readProduct 33 = .ok (.if_icmp .eq 13, 3) := by decide +kernel
theorem dX5_readProduct_36 : decode cX5_readProduct 36 = .ok (.iload 4, 2) := by decide +kernel
theorem dX5_readProduct_38 : decode cX5_readProduct 38 = .ok (.bipush 47, 2) := by decide +kernel
theorem dX5_readProduct_40 : decode cX5_readProduct 40 = .ok (.if_icmp .eq 6, 3) := by decide +kernel
theorem dX5_readProduct_43 : decode cX5_readProduct 43 = .ok (.goto 47, 3) := by decide +kernel
theorem dX5_readProduct_46 : decode cX5_readProduct 46 = .ok (.aload_n 0, 1) := by decide +kernel
theorem dX5_readProduct_47 : decode cX5_readProduct 47 = .ok (.dup, 1) := by decide +kernel
theorem dX5_readProduct_48 : decode cX5_readProduct 48 = .ok (.getfield 19, 3) := by decide +kernel
theorem dX5_readProduct_51 : decode cX5_readProduct 51 = .ok (.iconst 1, 1) := by decide +kernel
theorem dX5_readProduct_52 : decode cX5_readProduct 52 = .ok (.iadd, 1) := by decide +kernel
theorem dX5_readProduct_53 : decode cX5_readProduct 53 = .ok (.putfield 19, 3) := by decide +kernel
theorem dX5_readProduct_56 : decode cX5_readProduct 56 = .ok (.aload_n 0, 1) := by decide +kernel
theorem dX5_readProduct_57 : decode cX5_readProduct 57 = .ok (.iload_n 1, 1) := by decide +kernel
theorem dX5_readProduct_58 : decode cX5_readProduct 58 = .ok (.invokevirtual 45, 3) := by decide +kernel
theorem dX5_readProduct_61 : decode cX5_readProduct 61 = .ok (.istore 5, 2) := by decide +kernel
theorem dX5_readProduct_63 : decode cX5_readProduct 63 = .ok (.iload 4, 2) := by decide +kernel
theorem dX5_readProduct_65 : decode cX5_readProduct 65 = .ok (.bipush 42, 2) := by decide +kernel
theorem dX5_readProduct_67 : decode cX5_readProduct 67 = .ok (.if_icmp .ne 10, 3) := by decide +kernel
theorem dX5_readProduct_70 : decode cX5_readProduct 70 = .ok (.iload_n 2, 1) := by decide +kernel
theorem dX5_readProduct_71 : decode cX5_readProduct 71 = .ok (.iload 5, 2) := by decide +kernel
theorem dX5_readProduct_73 : decode cX5_readProduct 73 = .ok (.imul, 1) := by decide +kernel
theorem dX5_readProduct_74 : decode cX5_readProduct 74 = .ok (.goto 9, 3) := by decide +kernel
theorem dX5_readProduct_77 : decode cX5_readProduct 77 = .ok (.iload_n 2, 1) := by decide +kernel
theorem dX5_readProduct_78 : decode cX5_readProduct 78 = .ok (.iload 5, 2) := by decide +kernel
theorem dX5_readProduct_80 : decode cX5_readProduct 80 = .ok (.invokestatic 48, 3) := by decide +kernel
theorem dX5_readProduct_83 : decode cX5_readProduct 83 = .ok (.istore_n 2, 1) := by decide +kernel
theorem dX5_readProduct_84 : decode cX5_readProduct 84 = .ok (.iinc 3 1, 3) := by decide +kernel
theorem dX5_readProduct_87 : decode cX5_readProduct 87 = .ok (.goto (-79), 3) := by decide +kernel
theorem dX5_readProduct_90 : decode cX5_readProduct 90 = .ok (.iload_n 2, 1) := by decide +kernel
theorem dX5_readProduct_91 : decode cX5_readProduct 91 = .ok (.ireturn, 1) := by decide +kernel
theorem dX5_divide_0 : decode cX5_divide 0 = .ok (.iload_n 1, 1) := by decide +kernel
theorem dX5_divide_1 : decode cX5_divide 1 = .ok (.ifCond .ne 7, 3) := by decide +kernel
theorem dX5_divide_4 : decode cX5_divide 4 = .ok (.iconst 0, 1) := by decide +kernel
theorem dX5_divide_5 : decode cX5_divide 5 = .ok (.goto 6, 3) := by decide +kernel
theorem dX5_divide_8 : decode cX5_divide 8 = .ok (.iload_n 0, 1) := by decide +kernel
theorem dX5_divide_9 : decode cX5_divide 9 = .ok (.iload_n 1, 1) := by decide +kernel
theorem dX5_divide_10 : decode cX5_divide 10 = .ok (.idiv, 1) := by decide +kernel
theorem dX5_divide_11 : decode cX5_divide 11 = .ok (.ireturn, 1) := by decide +kernel
theorem dX5_readOperand_0 : decode cX5_readOperand 0 = .ok (.aload_n 0, 1) := by decide +kernel
theorem dX5_readOperand_1 : decode cX5_readOperand 1 = .ok (.getfield 22, 3) := by decide +kernel
theorem dX5_readOperand_4 : decode cX5_readOperand 4 = .ok (.ifCond .eq 5, 3) := by decide +kernel
theorem dX5_readOperand_7 : decode cX5_readOperand 7 = .ok (.iconst 0, 1) := by decide +kernel
theorem dX5_readOperand_8 : decode cX5_readOperand 8 = .ok (.ireturn, 1) := by decide +kernel
theorem dX5_readOperand_9 : decode cX5_readOperand 9 = .ok (.aload_n 0, 1) := by decide +kernel
theorem dX5_readOperand_10 : decode cX5_readOperand 10 = .ok (.invokevirtual 30, 3) := by decide +kernel
theorem dX5_readOperand_13 : decode cX5_readOperand 13 = .ok (.istore_n 2, 1) := by decide +kernel
theorem dX5_readOperand_14 : decode cX5_readOperand 14 = .ok (.iload_n 2, 1) := by decide +kernel
theorem dX5_readOperand_15 : decode cX5_readOperand 15 = .ok (.bipush 48, 2) := by decide +kernel
theorem dX5_readOperand_17 : decode cX5_readOperand 17 = .ok (.if_icmp .lt 14, 3) := by decide +kernel
theorem dX5_readOperand_20 : decode cX5_readOperand 20 = .ok (.iload_n 2, 1) := by decide +kernel
theorem dX5_readOperand_21 : decode cX5_readOperand 21 = .ok (.bipush 57, 2) := by decide +kernel
theorem dX5_readOperand_23 : decode cX5_readOperand 23 = .ok (.if_icmp .gt 8, 3) := by decide +kernel
theorem dX5_readOperand_26 : decode cX5_readOperand 26 = .ok (.aload_n 0, 1) := by decide +kernel
theorem dX5_readOperand_27 : decode cX5_readOperand 27 = .ok (.invokevirtual 52, 3) := by decide +kernel
theorem dX5_readOperand_30 : decode cX5_readOperand 30 = .ok (.ireturn, 1) := by decide +kernel
theorem dX5_readOperand_31 : decode cX5_readOperand 31 = .ok (.iload_n 2, 1) := by decide +kernel
theorem dX5_readOperand_32 : decode cX5_readOperand 32 = .ok (.bipush 40, 2) := by decide +kernel
theorem dX5_readOperand_34 : decode cX5_readOperand 34 = .ok (.if_icmp .ne 35, 3) := by decide +kernel
theorem dX5_readOperand_37 : decode cX5_readOperand 37 = .ok (.iload_n 1, 1) := by decide +kernel
theorem dX5_readOperand_38 : decode cX5_readOperand 38 = .ok (.bipush 8, 2) := by decide +kernel
theorem dX5_readOperand_40 : decode cX5_readOperand 40 = .ok (.if_icmp .ge 29, 3) := by decide +kernel
theorem dX5_readOperand_43 : decode cX5_readOperand 43 = .ok (.aload_n 0, 1) := by decide +kernel
theorem dX5_readOperand_44 : decode cX5_readOperand 44 = .ok (.dup, 1) := by decide +kernel
theorem dX5_readOperand_45 : decode cX5_readOperand 45 = .ok (.getfield 19, 3) := by decide +kernel
theorem dX5_readOperand_48 : decode cX5_readOperand 48 = .ok (.iconst 1, 1) := by decide +kernel
theorem dX5_readOperand_49 : decode cX5_readOperand 49 = .ok (.iadd, 1) := by decide +kernel
theorem dX5_readOperand_50 : decode cX5_readOperand 50 = .ok (.putfield 19, 3) := by decide +kernel
theorem dX5_readOperand_53 : decode cX5_readOperand 53 = .ok (.aload_n 0, 1) := by decide +kernel
theorem dX5_readOperand_54 : decode cX5_readOperand 54 = .ok (.iload_n 1, 1) := by decide +kernel
theorem dX5_readOperand_55 : decode cX5_readOperand 55 = .ok (.iconst 1, 1) := by decide +kernel
theorem dX5_readOperand_56 : decode cX5_readOperand 56 = .ok (.iadd, 1) := by decide +kernel
theorem dX5_readOperand_57 : decode cX5_readOperand 57 = .ok (.invokevirtual 26, 3) := by decide +kernel
theorem dX5_readOperand_60 : decode cX5_readOperand 60 = .ok (.istore_n 3, 1) := by decide +kernel
theorem dX5_readOperand_61 : decode cX5_readOperand 61 = .ok (.aload_n 0, 1) := by decide +kernel
theorem dX5_readOperand_62 : decode cX5_readOperand 62 = .ok (.bipush 41, 2) := by decide +kernel
theorem dX5_readOperand_64 : decode cX5_readOperand 64 = .ok (.invokevirtual 38, 3) := by decide +kernel
theorem dX5_readOperand_67 : decode cX5_readOperand 67 = .ok (.iload_n 3, 1) := by decide +kernel
theorem dX5_readOperand_68 : decode cX5_readOperand 68 = .ok (.ireturn, 1) := by decide +kernel
theorem dX5_readOperand_69 : decode cX5_readOperand 69 = .ok (.aload_n 0, 1) := by decide +kernel
theorem dX5_readOperand_70 : decode cX5_readOperand 70 = .ok (.iload_n 2, 1) := by decide +kernel
theorem dX5_readOperand_71 : decode cX5_readOperand 71 = .ok (.invokevirtual 55, 3) := by decide +kernel
theorem dX5_readOperand_74 : decode cX5_readOperand 74 = .ok (.ireturn, 1) := by decide +kernel
theorem dX5_readNumber_0 : decode cX5_readNumber 0 = .ok (.iconst 0, 1) := by decide +kernel
theorem dX5_readNumber_1 : decode cX5_readNumber 1 = .ok (.istore_n 1, 1) := by decide +kernel
theorem dX5_readNumber_2 : decode cX5_readNumber 2 = .ok (.iconst 0, 1) := by decide +kernel
theorem dX5_readNumber_3 : decode cX5_readNumber 3 = .ok (.istore_n 2, 1) := by decide +kernel
theorem dX5_readNumber_4 : decode cX5_readNumber 4 = .ok (.iload_n 2, 1) := by decide +kernel
theorem dX5_readNumber_5 : decode cX5_readNumber 5 = .ok (.bipush 6, 2) := by decide +kernel
theorem dX5_readNumber_7 : decode cX5_readNumber 7 = .ok (.if_icmp .ge 49, 3) := by decide +kernel
theorem dX5_readNumber_10 : decode cX5_readNumber 10 = .ok (.aload_n 0, 1) := by decide +kernel
theorem dX5_readNumber_11 : decode cX5_readNumber 11 = .ok (.invokevirtual 30, 3) := by decide +kernel
theorem dX5_readNumber_14 : decode cX5_readNumber 14 = .ok (.istore_n 3, 1) := by decide +kernel
theorem dX5_readNumber_15 : decode cX5_readNumber 15 = .ok (.iload_n 3, 1) := by decide +kernel
theorem dX5_readNumber_16 : decode cX5_readNumber 16 = .ok (.bipush 48, 2) := by decide +kernel
theorem dX5_readNumber_18 : decode cX5_readNumber 18 = .ok (.if_icmp .lt 38, 3) := by decide +kernel
theorem dX5_readNumber_21 : decode cX5_readNumber 21 = .ok (.iload_n 3, 1) := by decide +kernel
theorem dX5_readNumber_22 : decode cX5_readNumber 22 = .ok (.bipush 57, 2) := by decide +kernel
theorem dX5_readNumber_24 : decode cX5_readNumber 24 = .ok (.if_icmp .le 6, 3) := by decide +kernel
theorem dX5_readNumber_27 : decode cX5_readNumber 27 = .ok (.goto 29, 3) := by decide +kernel
theorem dX5_readNumber_30 : decode cX5_readNumber 30 = .ok (.iload_n 1, 1) := by decide +kernel
theorem dX5_readNumber_31 : decode cX5_readNumber 31 = .ok (.bipush 10, 2) := by decide +kernel
theorem dX5_readNumber_33 : decode cX5_readNumber 33 = .ok (.imul, 1) := by decide +kernel
theorem dX5_readNumber_34 : decode cX5_readNumber 34 = .ok (.iload_n 3, 1) := by decide +kernel
theorem dX5_readNumber_35 : decode cX5_readNumber 35 = .ok (.iadd, 1) := by decide +kernel
theorem dX5_readNumber_36 : decode cX5_readNumber 36 = .ok (.bipush 48, 2) := by decide +kernel
theorem dX5_readNumber_38 : decode cX5_readNumber 38 = .ok (.isub, 1) := by decide +kernel
theorem dX5_readNumber_39 : decode cX5_readNumber 39 = .ok (.istore_n 1, 1) := by decide +kernel
theorem dX5_readNumber_40 : decode cX5_readNumber 40 = .ok (.aload_n 0, 1) := by decide +kernel
theorem dX5_readNumber_41 : decode cX5_readNumber 41 = .ok (.dup, 1) := by decide +kernel
theorem dX5_readNumber_42 : decode cX5_readNumber 42 = .ok (.getfield 19, 3) := by decide +kernel
theorem dX5_readNumber_45 : decode cX5_readNumber 45 = .ok (.iconst 1, 1) := by decide +kernel
theorem dX5_readNumber_46 : decode cX5_readNumber 46 = .ok (.iadd, 1) := by decide +kernel
theorem dX5_readNumber_47 : decode cX5_readNumber 47 = .ok (.putfield 19, 3) := by decide +kernel
theorem dX5_readNumber_50 : decode cX5_readNumber 50 = .ok (.iinc 2 1, 3) := by decide +kernel
theorem dX5_readNumber_53 : decode cX5_readNumber 53 = .ok (.goto (-49), 3) := by decide +kernel
theorem dX5_readNumber_56 : decode cX5_readNumber 56 = .ok (.iload_n 1, 1) := by decide +kernel
theorem dX5_readNumber_57 : decode cX5_readNumber 57 = .ok (.ireturn, 1) := by decide +kernel
theorem dX5_readName_0 : decode cX5_readName 0 = .ok (.aload_n 0, 1) := by decide +kernel
theorem dX5_readName_1 : decode cX5_readName 1 = .ok (.dup, 1) := by decide +kernel
theorem dX5_readName_2 : decode cX5_readName 2 = .ok (.getfield 19, 3) := by decide +kernel
theorem dX5_readName_5 : decode cX5_readName 5 = .ok (.iconst 1, 1) := by decide +kernel
theorem dX5_readName_6 : decode cX5_readName 6 = .ok (.iadd, 1) := by decide +kernel
theorem dX5_readName_7 : decode cX5_readName 7 = .ok (.putfield 19, 3) := by decide +kernel
theorem dX5_readName_10 : decode cX5_readName 10 = .ok (.iload_n 1, 1) := by decide +kernel
theorem dX5_readName_11 : decode cX5_readName 11 = .ok (.lookupswitch 74 #[(102, 54), (109, 59), (115, 69), (116, 49), (121, 64)], 49) := by decide +kernel
theorem dX5_readName_60 : decode cX5_readName 60 = .ok (.aload_n 0, 1) := by decide +kernel
theorem dX5_readName_61 : decode cX5_readName 61 = .ok (.getfield 58, 3) := by decide +kernel
theorem dX5_readName_64 : decode cX5_readName 64 = .ok (.ireturn, 1) := by decide +kernel
theorem dX5_readName_65 : decode cX5_readName 65 = .ok (.aload_n 0, 1) := by decide +kernel
theorem dX5_readName_66 : decode cX5_readName 66 = .ok (.getfield 61, 3) := by decide +kernel
theorem dX5_readName_69 : decode cX5_readName 69 = .ok (.ireturn, 1) := by decide +kernel
theorem dX5_readName_70 : decode cX5_readName 70 = .ok (.aload_n 0, 1) := by decide +kernel
theorem dX5_readName_71 : decode cX5_readName 71 = .ok (.getfield 64, 3) := by decide +kernel
theorem dX5_readName_74 : decode cX5_readName 74 = .ok (.ireturn, 1) := by decide +kernel
theorem dX5_readName_75 : decode cX5_readName 75 = .ok (.aload_n 0, 1) := by decide +kernel
theorem dX5_readName_76 : decode cX5_readName 76 = .ok (.getfield 67, 3) := by decide +kernel
theorem dX5_readName_79 : decode cX5_readName 79 = .ok (.ireturn, 1) := by decide +kernel
theorem dX5_readName_80 : decode cX5_readName 80 = .ok (.aload_n 0, 1) := by decide +kernel
theorem dX5_readName_81 : decode cX5_readName 81 = .ok (.getfield 70, 3) := by decide +kernel
theorem dX5_readName_84 : decode cX5_readName 84 = .ok (.ireturn, 1) := by decide +kernel
theorem dX5_readName_85 : decode cX5_readName 85 = .ok (.aload_n 0, 1) := by decide +kernel
theorem dX5_readName_86 : decode cX5_readName 86 = .ok (.dup, 1) := by decide +kernel
theorem dX5_readName_87 : decode cX5_readName 87 = .ok (.getfield 19, 3) := by decide +kernel
theorem dX5_readName_90 : decode cX5_readName 90 = .ok (.iconst 1, 1) := by decide +kernel
theorem dX5_readName_91 : decode cX5_readName 91 = .ok (.isub, 1) := by decide +kernel
theorem dX5_readName_92 : decode cX5_readName 92 = .ok (.putfield 19, 3) := by decide +kernel
theorem dX5_readName_95 : decode cX5_readName 95 = .ok (.aload_n 0, 1) := by decide +kernel
theorem dX5_readName_96 : decode cX5_readName 96 = .ok (.iconst 1, 1) := by decide +kernel
theorem dX5_readName_97 : decode cX5_readName 97 = .ok (.putfield 22, 3) := by decide +kernel
theorem dX5_readName_100 : decode cX5_readName 100 = .ok (.iconst 0, 1) := by decide +kernel
theorem dX5_readName_101 : decode cX5_readName 101 = .ok (.ireturn, 1) := by decide +kernel
theorem dX6_init_0 : decode cX6_init 0 = .ok (.aload_n 0, 1) := by decide +kernel
theorem dX6_init_1 : decode cX6_init 1 = .ok (.invokespecial 3, 3) := by decide +kernel
theorem dX6_init_4 : decode cX6_init 4 = .ok (.aload_n 0, 1) := by decide +kernel
theorem dX6_init_5 : decode cX6_init 5 = .ok (.new 9, 3) := by decide +kernel
theorem dX6_init_8 : decode cX6_init 8 = .ok (.dup, 1) := by decide +kernel
theorem dX6_init_9 : decode cX6_init 9 = .ok (.invokespecial 11, 3) := by decide +kernel
theorem dX6_init_12 : decode cX6_init 12 = .ok (.putfield 12, 3) := by decide +kernel
theorem dX6_init_15 : decode cX6_init 15 = .ok (.aload_n 0, 1) := by decide +kernel
theorem dX6_init_16 : decode cX6_init 16 = .ok (.bipush 20, 2) := by decide +kernel
theorem dX6_init_18 : decode cX6_init 18 = .ok (.anewarray 18, 3) := by decide +kernel
theorem dX6_init_21 : decode cX6_init 21 = .ok (.putfield 20, 3) := by decide +kernel
theorem dX6_init_24 : decode cX6_init 24 = .ok (.aload_n 0, 1) := by decide +kernel
theorem dX6_init_25 : decode cX6_init 25 = .ok (.bipush 120, 2) := by decide +kernel
theorem dX6_init_27 : decode cX6_init 27 = .ok (.newarray .int, 2) := by decide +kernel
theorem dX6_init_29 : decode cX6_init 29 = .ok (.putfield 24, 3) := by decide +kernel
theorem dX6_init_32 : decode cX6_init 32 = .ok (.aload_n 0, 1) := by decide +kernel
theorem dX6_init_33 : decode cX6_init 33 = .ok (.aload_n 1, 1) := by decide +kernel
theorem dX6_init_34 : decode cX6_init 34 = .ok (.putfield 28, 3) := by decide +kernel
theorem dX6_init_37 : decode cX6_init 37 = .ok (.return_, 1) := by decide +kernel
theorem dX6_addBytes_0 : decode cX6_addBytes 0 = .ok (.aload_n 0, 1) := by decide +kernel
theorem dX6_addBytes_1 : decode cX6_addBytes 1 = .ok (.getfield 32, 3) := by decide +kernel
theorem dX6_addBytes_4 : decode cX6_addBytes 4 = .ok (.iload_n 1, 1) := by decide +kernel
theorem dX6_addBytes_5 : decode cX6_addBytes 5 = .ok (.iadd, 1) := by decide +kernel
theorem dX6_addBytes_6 : decode cX6_addBytes 6 = .ok (.bipush 120, 2) := by decide +kernel
theorem dX6_addBytes_8 : decode cX6_addBytes 8 = .ok (.if_icmp .le 6, 3) := by decide +kernel
theorem dX6_addBytes_11 : decode cX6_addBytes 11 = .ok (.bipush (-2), 2) := by decide +kernel
theorem dX6_addBytes_13 : decode cX6_addBytes 13 = .ok (.ireturn, 1) := by decide +kernel
theorem dX6_addBytes_14 : decode cX6_addBytes 14 = .ok (.iconst 0, 1) := by decide +kernel
theorem dX6_addBytes_15 : decode cX6_addBytes 15 = .ok (.istore_n 3, 1) := by decide +kernel
theorem dX6_addBytes_16 : decode cX6_addBytes 16 = .ok (.iload_n 3, 1) := by decide +kernel
theorem dX6_addBytes_17 : decode cX6_addBytes 17 = .ok (.iload_n 1, 1) := by decide +kernel
theorem dX6_addBytes_18 : decode cX6_addBytes 18 = .ok (.if_icmp .ge 40, 3) := by decide +kernel
theorem dX6_addBytes_21 : decode cX6_addBytes 21 = .ok (.aload_n 0, 1) := by decide +kernel
theorem dX6_addBytes_22 : decode cX6_addBytes 22 = .ok (.getfield 24, 3) := by decide +kernel
theorem dX6_addBytes_25 : decode cX6_addBytes 25 = .ok (.aload_n 0, 1) := by decide +kernel
theorem dX6_addBytes_26 : decode cX6_addBytes 26 = .ok (.getfield 32, 3) := by decide +kernel
theorem dX6_addBytes_29 : decode cX6_addBytes 29 = .ok (.iload_n 2, 1) := by decide +kernel
theorem dX6_addBytes_30 : decode cX6_addBytes 30 = .ok (.bipush 8, 2) := by decide +kernel
theorem dX6_addBytes_32 : decode cX6_addBytes 32 = .ok (.iload_n 3, 1) := by decide +kernel
theorem dX6_addBytes_33 : decode cX6_addBytes 33 = .ok (.imul, 1) := by decide +kernel
theorem dX6_addBytes_34 : decode cX6_addBytes 34 = .ok (.iushr, 1) := by decide +kernel
theorem dX6_addBytes_35 : decode cX6_addBytes 35 = .ok (.sipush 255, 3) := by decide +kernel
theorem dX6_addBytes_38 : decode cX6_addBytes 38 = .ok (.iand, 1) := by decide +kernel
theorem dX6_addBytes_39 : decode cX6_addBytes 39 = .ok (.invokestatic 36, 3) := by decide +kernel
theorem dX6_addBytes_42 : decode cX6_addBytes 42 = .ok (.aload_n 0, 1) := by decide +kernel
theorem dX6_addBytes_43 : decode cX6_addBytes 43 = .ok (.dup, 1) := by decide +kernel
theorem dX6_addBytes_44 : decode cX6_addBytes 44 = .ok (.getfield 32, 3) := by decide +kernel
theorem dX6_addBytes_47 : decode cX6_addBytes 47 = .ok (.iconst 1, 1) := by decide +kernel
theorem dX6_addBytes_48 : decode cX6_addBytes 48 = .ok (.iadd, 1) := by decide +kernel
theorem dX6_addBytes_49 : decode cX6_addBytes 49 = .ok (.putfield 32, 3) := by decide +kernel
theorem dX6_addBytes_52 : decode cX6_addBytes 52 = .ok (.iinc 3 1, 3) := by decide +kernel
theorem dX6_addBytes_55 : decode cX6_addBytes 55 = .ok (.goto (-39), 3) := by decide +kernel
theorem dX6_addBytes_58 : decode cX6_addBytes 58 = .ok (.aload_n 0, 1) := by decide +kernel
theorem dX6_addBytes_59 : decode cX6_addBytes 59 = .ok (.getfield 32, 3) := by decide +kernel
theorem dX6_addBytes_62 : decode cX6_addBytes 62 = .ok (.ireturn, 1) := by decide +kernel
theorem dX6_makeText_0 : decode cX6_makeText 0 = .ok (.aload_n 0, 1) := by decide +kernel
theorem dX6_makeText_1 : decode cX6_makeText 1 = .ok (.getfield 40, 3) := by decide +kernel
theorem dX6_makeText_4 : decode cX6_makeText 4 = .ok (.ifCond .lt 15, 3) := by decide +kernel
theorem dX6_makeText_7 : decode cX6_makeText 7 = .ok (.aload_n 0, 1) := by decide +kernel
theorem dX6_makeText_8 : decode cX6_makeText 8 = .ok (.getfield 40, 3) := by decide +kernel
theorem dX6_makeText_11 : decode cX6_makeText 11 = .ok (.aload_n 0, 1) := by decide +kernel
theorem dX6_makeText_12 : decode cX6_makeText 12 = .ok (.getfield 20, 3) := by decide +kernel
theorem dX6_makeText_15 : decode cX6_makeText 15 = .ok (.arraylength, 1) := by decide +kernel
theorem dX6_makeText_16 : decode cX6_makeText 16 = .ok (.if_icmp .lt 6, 3) := by decide +kernel
theorem dX6_makeText_19 : decode cX6_makeText 19 = .ok (.bipush (-2), 2) := by decide +kernel
theorem dX6_makeText_21 : decode cX6_makeText 21 = .ok (.ireturn, 1) := by decide +kernel
theorem dX6_makeText_22 : decode cX6_makeText 22 = .ok (.aload_n 0, 1) := by decide +kernel
theorem dX6_makeText_23 : decode cX6_makeText 23 = .ok (.getfield 32, 3) := by decide +kernel
theorem dX6_makeText_26 : decode cX6_makeText 26 = .ok (.istore 4, 2) := by decide +kernel
theorem dX6_makeText_28 : decode cX6_makeText 28 = .ok (.aload_n 0, 1) := by decide +kernel
theorem dX6_makeText_29 : decode cX6_makeText 29 = .ok (.iconst 0, 1) := by decide +kernel
theorem dX6_makeText_30 : decode cX6_makeText 30 = .ok (.putfield 32, 3) := by decide +kernel
theorem dX6_makeText_33 : decode cX6_makeText 33 = .ok (.aload_n 0, 1) := by decide +kernel
theorem dX6_makeText_34 : decode cX6_makeText 34 = .ok (.getfield 12, 3) := by decide +kernel
theorem dX6_makeText_37 : decode cX6_makeText 37 = .ok (.aload_n 0, 1) := by decide +kernel
theorem dX6_makeText_38 : decode cX6_makeText 38 = .ok (.getfield 24, 3) := by decide +kernel
theorem dX6_makeText_41 : decode cX6_makeText 41 = .ok (.iload 4, 2) := by decide +kernel
theorem dX6_makeText_43 : decode cX6_makeText 43 = .ok (.invokevirtual 43, 3) := by decide +kernel
theorem dX6_makeText_46 : decode cX6_makeText 46 = .ok (.pop, 1) := by decide +kernel
theorem dX6_makeText_47 : decode cX6_makeText 47 = .ok (.aload_n 0, 1) := by decide +kernel
theorem dX6_makeText_48 : decode cX6_makeText 48 = .ok (.getfield 12, 3) := by decide +kernel
theorem dX6_makeText_51 : decode cX6_makeText 51 = .ok (.getfield 47, 3) := by decide +kernel
theorem dX6_makeText_54 : decode cX6_makeText 54 = .ok (.ifCond .eq 14, 3) := by decide +kernel
theorem dX6_makeText_57 : decode cX6_makeText 57 = .ok (.bipush (-100), 2) := by decide +kernel
theorem dX6_makeText_59 : decode cX6_makeText 59 = .ok (.aload_n 0, 1) := by decide +kernel
theorem dX6_makeText_60 : decode cX6_makeText 60 = .ok (.getfield 12, 3) := by decide +kernel
theorem dX6_makeText_63 : decode cX6_makeText 63 = .ok (.getfield 51, 3) := by decide +kernel
theorem dX6_makeText_66 : decode cX6_makeText 66 = .ok (.isub, 1) := by decide +kernel
theorem dX6_makeText_67 : decode cX6_makeText 67 = .ok (.ireturn, 1) := by decide +kernel
theorem dX6_makeText_68 : decode cX6_makeText 68 = .ok (.aload_n 0, 1) := by decide +kernel
theorem dX6_makeText_69 : decode cX6_makeText 69 = .ok (.getfield 20, 3) := by decide +kernel
theorem dX6_makeText_72 : decode cX6_makeText 72 = .ok (.aload_n 0, 1) := by decide +kernel
theorem dX6_makeText_73 : decode cX6_makeText 73 = .ok (.getfield 40, 3) := by decide +kernel
theorem dX6_makeText_76 : decode cX6_makeText 76 = .ok (.new 18, 3) := by decide +kernel
theorem dX6_makeText_79 : decode cX6_makeText 79 = .ok (.dup, 1) := by decide +kernel
theorem dX6_makeText_80 : decode cX6_makeText 80 = .ok (.iload_n 1, 1) := by decide +kernel
theorem dX6_makeText_81 : decode cX6_makeText 81 = .ok (.iload_n 2, 1) := by decide +kernel
theorem dX6_makeText_82 : decode cX6_makeText 82 = .ok (.iload_n 3, 1) := by decide +kernel
theorem dX6_makeText_83 : decode cX6_makeText 83 = .ok (.aload_n 0, 1) := by decide +kernel
theorem dX6_makeText_84 : decode cX6_makeText 84 = .ok (.getfield 24, 3) := by decide +kernel
theorem dX6_makeText_87 : decode cX6_makeText 87 = .ok (.iload 4, 2) := by decide +kernel
theorem dX6_makeText_89 : decode cX6_makeText 89 = .ok (.invokespecial 54, 3) := by decide +kernel
theorem dX6_makeText_92 : decode cX6_makeText 92 = .ok (.aastore, 1) := by decide +kernel
theorem dX6_makeText_93 : decode cX6_makeText 93 = .ok (.aload_n 0, 1) := by decide +kernel
theorem dX6_makeText_94 : decode cX6_makeText 94 = .ok (.dup, 1) := by decide +kernel
theorem dX6_makeText_95 : decode cX6_makeText 95 = .ok (.getfield 40, 3) := by decide +kernel
theorem dX6_makeText_98 : decode cX6_makeText 98 = .ok (.iconst 1, 1) := by decide +kernel
theorem dX6_makeText_99 : decode cX6_makeText 99 = .ok (.iadd, 1) := by decide +kernel
theorem dX6_makeText_100 : decode cX6_makeText 100 = .ok (.putfield 40, 3) := by decide +kernel
theorem dX6_makeText_103 : decode cX6_makeText 103 = .ok (.aload_n 0, 1) := by decide +kernel
theorem dX6_makeText_104 : decode cX6_makeText 104 = .ok (.getfield 40, 3) := by decide +kernel
theorem dX6_makeText_107 : decode cX6_makeText 107 = .ok (.iconst 1, 1) := by decide +kernel
theorem dX6_makeText_108 : decode cX6_makeText 108 = .ok (.isub, 1) := by decide +kernel
theorem dX6_makeText_109 : decode cX6_makeText 109 = .ok (.ireturn, 1) := by decide +kernel
theorem dX6_textAt_0 : decode cX6_textAt 0 = .ok (.iload_n 1, 1) := by decide +kernel
theorem dX6_textAt_1 : decode cX6_textAt 1 = .ok (.ifCond .lt 29, 3) := by decide +kernel
theorem dX6_textAt_4 : decode cX6_textAt 4 = .ok (.iload_n 1, 1) := by decide +kernel
theorem dX6_textAt_5 : decode cX6_textAt 5 = .ok (.aload_n 0, 1) := by decide +kernel
theorem dX6_textAt_6 : decode cX6_textAt 6 = .ok (.getfield 40, 3) := by decide +kernel
theorem dX6_textAt_9 : decode cX6_textAt 9 = .ok (.if_icmp .ge 21, 3) := by decide +kernel
theorem dX6_textAt_12 : decode cX6_textAt 12 = .ok (.iload_n 1, 1) := by decide +kernel
theorem dX6_textAt_13 : decode cX6_textAt 13 = .ok (.aload_n 0, 1) := by decide +kernel
theorem dX6_textAt_14 : decode cX6_textAt 14 = .ok (.getfield 20, 3) := by decide +kernel
theorem dX6_textAt_17 : decode cX6_textAt 17 = .ok (.arraylength, 1) := by decide +kernel
theorem dX6_textAt_18 : decode cX6_textAt 18 = .ok (.if_icmp .ge 12, 3) := by decide +kernel
theorem dX6_textAt_21 : decode cX6_textAt 21 = .ok (.aload_n 0, 1) := by decide +kernel
theorem dX6_textAt_22 : decode cX6_textAt 22 = .ok (.getfield 20, 3) := by decide +kernel
theorem dX6_textAt_25 : decode cX6_textAt 25 = .ok (.iload_n 1, 1) := by decide +kernel
theorem dX6_textAt_26 : decode cX6_textAt 26 = .ok (.aaload, 1) := by decide +kernel
theorem dX6_textAt_27 : decode cX6_textAt 27 = .ok (.goto 4, 3) := by decide +kernel
theorem dX6_textAt_30 : decode cX6_textAt 30 = .ok (.aconst_null, 1) := by decide +kernel
theorem dX6_textAt_31 : decode cX6_textAt 31 = .ok (.areturn, 1) := by decide +kernel
theorem dX6_numberInForce_0 : decode cX6_numberInForce 0 = .ok (.aload_n 0, 1) := by decide +kernel
theorem dX6_numberInForce_1 : decode cX6_numberInForce 1 = .ok (.getfield 40, 3) := by decide +kernel
theorem dX6_numberInForce_4 : decode cX6_numberInForce 4 = .ok (.iconst 1, 1) := by decide +kernel
theorem dX6_numberInForce_5 : decode cX6_numberInForce 5 = .ok (.isub, 1) := by decide +kernel
theorem dX6_numberInForce_6 : decode cX6_numberInForce 6 = .ok (.istore 4, 2) := by decide +kernel
theorem dX6_numberInForce_8 : decode cX6_numberInForce 8 = .ok (.iload 4, 2) := by decide +kernel
theorem dX6_numberInForce_10 : decode cX6_numberInForce 10 = .ok (.ifCond .lt 55, 3) := by decide +kernel
theorem dX6_numberInForce_13 : decode cX6_numberInForce 13 = .ok (.aload_n 0, 1) := by decide +kernel
theorem dX6_numberInForce_14 : decode cX6_numberInForce 14 = .ok (.iload 4, 2) := by decide +kernel
theorem dX6_numberInForce_16 : decode cX6_numberInForce 16 = .ok (.invokevirtual 57, 3) := by decide +kernel
theorem dX6_numberInForce_19 : decode cX6_numberInForce 19 = .ok (.astore 5, 2) := by decide +kernel
theorem dX6_numberInForce_21 : decode cX6_numberInForce 21 = .ok (.aload 5, 2) := by decide +kernel
theorem dX6_numberInForce_23 : decode cX6_numberInForce 23 = .ok (.ifnull 36, 3) := by decide +kernel
theorem dX6_numberInForce_26 : decode cX6_numberInForce 26 = .ok (.aload 5, 2) := by decide +kernel
theorem dX6_numberInForce_28 : decode cX6_numberInForce 28 = .ok (.getfield 61, 3) := by decide +kernel
theorem dX6_numberInForce_31 : decode cX6_numberInForce 31 = .ok (.iload_n 1, 1) := by decide +kernel
theorem dX6_numberInForce_32 : decode cX6_numberInForce 32 = .ok (.if_icmp .eq 6, 3) := by decide +kernel
theorem dX6_numberInForce_35 : decode cX6_numberInForce 35 = .ok (.goto 24, 3) := by decide +kernel
theorem dX6_numberInForce_38 : decode cX6_numberInForce 38 = .ok (.aload 5, 2) := by decide +kernel
theorem dX6_numberInForce_40 : decode cX6_numberInForce 40 = .ok (.getfield 64, 3) := by decide +kernel
theorem dX6_numberInForce_43 : decode cX6_numberInForce 43 = .ok (.iload_n 3, 1) := by decide +kernel
theorem dX6_numberInForce_44 : decode cX6_numberInForce 44 = .ok (.if_icmp .gt 15, 3) := by decide +kernel
theorem dX6_numberInForce_47 : decode cX6_numberInForce 47 = .ok (.aload 5, 2) := by decide +kernel
theorem dX6_numberInForce_49 : decode cX6_numberInForce 49 = .ok (.getfield 67, 3) := by decide +kernel
theorem dX6_numberInForce_52 : decode cX6_numberInForce 52 = .ok (.iload_n 2, 1) := by decide +kernel
theorem dX6_numberInForce_53 : decode cX6_numberInForce 53 = .ok (.if_icmp .gt 6, 3) := by decide +kernel
theorem dX6_numberInForce_56 : decode cX6_numberInForce 56 = .ok (.iload 4, 2) := by decide +kernel
theorem dX6_numberInForce_58 : decode cX6_numberInForce 58 = .ok (.ireturn, 1) := by decide +kernel
theorem dX6_numberInForce_59 : decode cX6_numberInForce 59 = .ok (.iinc 4 (-1), 3) := by decide +kernel
theorem dX6_numberInForce_62 : decode cX6_numberInForce 62 = .ok (.goto (-54), 3) := by decide +kernel
theorem dX6_numberInForce_65 : decode cX6_numberInForce 65 = .ok (.iconst (-1), 1) := by decide +kernel
theorem dX6_numberInForce_66 : decode cX6_numberInForce 66 = .ok (.ireturn, 1) := by decide +kernel
theorem dX6_worth_0 : decode cX6_worth 0 = .ok (.aload_n 0, 1) := by decide +kernel
theorem dX6_worth_1 : decode cX6_worth 1 = .ok (.iload_n 1, 1) := by decide +kernel
theorem dX6_worth_2 : decode cX6_worth 2 = .ok (.invokevirtual 57, 3) := by decide +kernel
theorem dX6_worth_5 : decode cX6_worth 5 = .ok (.astore 4, 2) := by decide +kernel
theorem dX6_worth_7 : decode cX6_worth 7 = .ok (.aload 4, 2) := by decide +kernel
theorem dX6_worth_9 : decode cX6_worth 9 = .ok (.ifnonnull 5, 3) := by decide +kernel
theorem dX6_worth_12 : decode cX6_worth 12 = .ok (.iconst 0, 1) := by decide +kernel
theorem dX6_worth_13 : decode cX6_worth 13 = .ok (.ireturn, 1) := by decide +kernel
theorem dX6_worth_14 : decode cX6_worth 14 = .ok (.aload_n 2, 1) := by decide +kernel
theorem dX6_worth_15 : decode cX6_worth 15 = .ok (.iload_n 3, 1) := by decide +kernel
theorem dX6_worth_16 : decode cX6_worth 16 = .ok (.bipush 30, 2) := by decide +kernel
theorem dX6_worth_18 : decode cX6_worth 18 = .ok (.idiv, 1) := by decide +kernel
theorem dX6_worth_19 : decode cX6_worth 19 = .ok (.invokevirtual 70, 3) := by decide +kernel
theorem dX6_worth_22 : decode cX6_worth 22 = .ok (.astore 5, 2) := by decide +kernel
theorem dX6_worth_24 : decode cX6_worth 24 = .ok (.aload_n 0, 1) := by decide +kernel
theorem dX6_worth_25 : decode cX6_worth 25 = .ok (.getfield 12, 3) := by decide +kernel
theorem dX6_worth_28 : decode cX6_worth 28 = .ok (.aload 5, 2) := by decide +kernel
theorem dX6_worth_30 : decode cX6_worth 30 = .ok (.ifnonnull 7, 3) := by decide +kernel
theorem dX6_worth_33 : decode cX6_worth 33 = .ok (.iconst 0, 1) := by decide +kernel
theorem dX6_worth_34 : decode cX6_worth 34 = .ok (.goto 8, 3) := by decide +kernel
theorem dX6_worth_37 : decode cX6_worth 37 = .ok (.aload 5, 2) := by decide +kernel
theorem dX6_worth_39 : decode cX6_worth 39 = .ok (.getfield 76, 3) := by decide +kernel
theorem dX6_worth_42 : decode cX6_worth 42 = .ok (.putfield 81, 3) := by decide +kernel
theorem dX6_worth_45 : decode cX6_worth 45 = .ok (.aload_n 0, 1) := by decide +kernel
theorem dX6_worth_46 : decode cX6_worth 46 = .ok (.getfield 12, 3) := by decide +kernel
theorem dX6_worth_49 : decode cX6_worth 49 = .ok (.aload 5, 2) := by decide +kernel
theorem dX6_worth_51 : decode cX6_worth 51 = .ok (.ifnonnull 7, 3) := by decide +kernel
theorem dX6_worth_54 : decode cX6_worth 54 = .ok (.iconst 0, 1) := by decide +kernel
theorem dX6_worth_55 : decode cX6_worth 55 = .ok (.goto 8, 3) := by decide +kernel
theorem dX6_worth_58 : decode cX6_worth 58 = .ok (.aload 5, 2) := by decide +kernel
theorem dX6_worth_60 : decode cX6_worth 60 = .ok (.getfield 82, 3) := by decide +kernel
theorem dX6_worth_63 : decode cX6_worth 63 = .ok (.putfield 85, 3) := by decide +kernel
theorem dX6_worth_66 : decode cX6_worth 66 = .ok (.aload_n 0, 1) := by decide +kernel
theorem dX6_worth_67 : decode cX6_worth 67 = .ok (.getfield 12, 3) := by decide +kernel
theorem dX6_worth_70 : decode cX6_worth 70 = .ok (.iload_n 3, 1) := by decide +kernel
theorem dX6_worth_71 : decode cX6_worth 71 = .ok (.bipush 30, 2) := by decide +kernel
theorem dX6_worth_73 : decode cX6_worth 73 = .ok (.idiv, 1) := by decide +kernel
theorem dX6_worth_74 : decode cX6_worth 74 = .ok (.putfield 86, 3) := by decide +kernel
theorem dX6_worth_77 : decode cX6_worth 77 = .ok (.aload_n 0, 1) := by decide +kernel
theorem dX6_worth_78 : decode cX6_worth 78 = .ok (.getfield 12, 3) := by decide +kernel
theorem dX6_worth_81 : decode cX6_worth 81 = .ok (.iload_n 3, 1) := by decide +kernel
theorem dX6_worth_82 : decode cX6_worth 82 = .ok (.aload_n 2, 1) := by decide +kernel
theorem dX6_worth_83 : decode cX6_worth 83 = .ok (.getfield 89, 3) := by decide +kernel
theorem dX6_worth_86 : decode cX6_worth 86 = .ok (.if_icmp .ge 7, 3) := by decide +kernel
theorem dX6_worth_89 : decode cX6_worth 89 = .ok (.iconst 0, 1) := by decide +kernel
theorem dX6_worth_90 : decode cX6_worth 90 = .ok (.goto 13, 3) := by decide +kernel
theorem dX6_worth_93 : decode cX6_worth 93 = .ok (.iload_n 3, 1) := by decide +kernel
theorem dX6_worth_94 : decode cX6_worth 94 = .ok (.aload_n 2, 1) := by decide +kernel
theorem dX6_worth_95 : decode cX6_worth 95 = .ok (.getfield 89, 3) := by decide +kernel
theorem dX6_worth_98 : decode cX6_worth 98 = .ok (.isub, 1) := by decide +kernel
theorem dX6_worth_99 : decode cX6_worth 99 = .ok (.sipush 360, 3) := by decide +kernel
theorem dX6_worth_102 : decode cX6_worth 102 = .ok (.idiv, 1) := by decide +kernel
theorem dX6_worth_103 : decode cX6_worth 103 = .ok (.putfield 92, 3) := by decide +kernel
theorem dX6_worth_106 : decode cX6_worth 106 = .ok (.aload_n 0, 1) := by decide +kernel
theorem dX6_worth_107 : decode cX6_worth 107 = .ok (.getfield 12, 3) := by decide +kernel
theorem dX6_worth_110 : decode cX6_worth 110 = .ok (.aload_n 0, 1) := by decide +kernel
theorem dX6_worth_111 : decode cX6_worth 111 = .ok (.getfield 28, 3) := by decide +kernel
theorem dX6_worth_114 : decode cX6_worth 114 = .ok (.aload_n 2, 1) := by decide +kernel
theorem dX6_worth_115 : decode cX6_worth 115 = .ok (.getfield 95, 3) := by decide +kernel
theorem dX6_worth_118 : decode cX6_worth 118 = .ok (.iload_n 3, 1) := by decide +kernel
theorem dX6_worth_119 : decode cX6_worth 119 = .ok (.invokevirtual 98, 3) := by decide +kernel
theorem dX6_worth_122 : decode cX6_worth 122 = .ok (.putfield 104, 3) := by decide +kernel
theorem dX6_worth_125 : decode cX6_worth 125 = .ok (.iconst 0, 1) := by decide +kernel
theorem dX6_worth_126 : decode cX6_worth 126 = .ok (.ldc 107, 2) := by decide +kernel
theorem dX6_worth_128 : decode cX6_worth 128 = .ok (.aload_n 0, 1) := by decide +kernel
theorem dX6_worth_129 : decode cX6_worth 129 = .ok (.getfield 12, 3) := by decide +kernel
theorem dX6_worth_132 : decode cX6_worth 132 = .ok (.aload 4, 2) := by decide +kernel
theorem dX6_worth_134 : decode cX6_worth 134 = .ok (.getfield 108, 3) := by decide +kernel
theorem dX6_worth_137 : decode cX6_worth 137 = .ok (.aload 4, 2) := by decide +kernel
theorem dX6_worth_139 : decode cX6_worth 139 = .ok (.getfield 111, 3) := by decide +kernel
theorem dX6_worth_142 : decode cX6_worth 142 = .ok (.invokevirtual 43, 3) := by decide +kernel
theorem dX6_worth_145 : decode cX6_worth 145 = .ok (.invokestatic 114, 3) := by decide +kernel
theorem dX6_worth_148 : decode cX6_worth 148 = .ok (.invokestatic 119, 3) := by decide +kernel
theorem dX6_worth_151 : decode cX6_worth 151 = .ok (.ireturn, 1) := by decide +kernel
theorem dX7_init_0 : decode cX7_init 0 = .ok (.aload_n 0, 1) := by decide +kernel
theorem dX7_init_1 : decode cX7_init 1 = .ok (.invokespecial 3, 3) := by decide +kernel
theorem dX7_init_4 : decode cX7_init 4 = .ok (.aload_n 0, 1) := by decide +kernel
theorem dX7_init_5 : decode cX7_init 5 = .ok (.sipush 333, 3) := by decide +kernel
theorem dX7_init_8 : decode cX7_init 8 = .ok (.anewarray 9, 3) := by decide +kernel
theorem dX7_init_11 : decode cX7_init 11 = .ok (.putfield 11, 3) := by decide +kernel
theorem dX7_init_14 : decode cX7_init 14 = .ok (.aload_n 0, 1) := by decide +kernel
theorem dX7_init_15 : decode cX7_init 15 = .ok (.iconst (-1), 1) := by decide +kernel
theorem dX7_init_16 : decode cX7_init 16 = .ok (.putfield 17, 3) := by decide +kernel
theorem dX7_init_19 : decode cX7_init 19 = .ok (.aload_n 0, 1) := by decide +kernel
theorem dX7_init_20 : decode cX7_init 20 = .ok (.iconst (-1), 1) := by decide +kernel
theorem dX7_init_21 : decode cX7_init 21 = .ok (.putfield 21, 3) := by decide +kernel
theorem dX7_init_24 : decode cX7_init 24 = .ok (.aload_n 0, 1) := by decide +kernel
theorem dX7_init_25 : decode cX7_init 25 = .ok (.iload_n 1, 1) := by decide +kernel
theorem dX7_init_26 : decode cX7_init 26 = .ok (.putfield 24, 3) := by decide +kernel
theorem dX7_init_29 : decode cX7_init 29 = .ok (.aload_n 0, 1) := by decide +kernel
theorem dX7_init_30 : decode cX7_init 30 = .ok (.iload_n 2, 1) := by decide +kernel
theorem dX7_init_31 : decode cX7_init 31 = .ok (.putfield 27, 3) := by decide +kernel
theorem dX7_init_34 : decode cX7_init 34 = .ok (.aload_n 0, 1) := by decide +kernel
theorem dX7_init_35 : decode cX7_init 35 = .ok (.iload_n 3, 1) := by decide +kernel
theorem dX7_init_36 : decode cX7_init 36 = .ok (.putfield 30, 3) := by decide +kernel
theorem dX7_init_39 : decode cX7_init 39 = .ok (.aload_n 0, 1) := by decide +kernel
theorem dX7_init_40 : decode cX7_init 40 = .ok (.iload 4, 2) := by decide +kernel
theorem dX7_init_42 : decode cX7_init 42 = .ok (.putfield 33, 3) := by decide +kernel
theorem dX7_init_45 : decode cX7_init 45 = .ok (.return_, 1) := by decide +kernel
theorem dX7_isOpen_0 : decode cX7_isOpen 0 = .ok (.aload_n 0, 1) := by decide +kernel
theorem dX7_isOpen_1 : decode cX7_isOpen 1 = .ok (.getfield 17, 3) := by decide +kernel
theorem dX7_isOpen_4 : decode cX7_isOpen 4 = .ok (.iconst (-1), 1) := by decide +kernel
theorem dX7_isOpen_5 : decode cX7_isOpen 5 = .ok (.if_icmp .ne 7, 3) := by decide +kernel
theorem dX7_isOpen_8 : decode cX7_isOpen 8 = .ok (.iconst 1, 1) := by decide +kernel
theorem dX7_isOpen_9 : decode cX7_isOpen 9 = .ok (.goto 4, 3) := by decide +kernel
theorem dX7_isOpen_12 : decode cX7_isOpen 12 = .ok (.iconst 0, 1) := by decide +kernel
theorem dX7_isOpen_13 : decode cX7_isOpen 13 = .ok (.ireturn, 1) := by decide +kernel
theorem dX7_wasOpenOn_0 : decode cX7_wasOpenOn 0 = .ok (.aload_n 0, 1) := by decide +kernel
theorem dX7_wasOpenOn_1 : decode cX7_wasOpenOn 1 = .ok (.getfield 33, 3) := by decide +kernel
theorem dX7_wasOpenOn_4 : decode cX7_wasOpenOn 4 = .ok (.iload_n 1, 1) := by decide +kernel
theorem dX7_wasOpenOn_5 : decode cX7_wasOpenOn 5 = .ok (.if_icmp .gt 23, 3) := by decide +kernel
theorem dX7_wasOpenOn_8 : decode cX7_wasOpenOn 8 = .ok (.aload_n 0, 1) := by decide +kernel
theorem dX7_wasOpenOn_9 : decode cX7_wasOpenOn 9 = .ok (.getfield 17, 3) := by decide +kernel
theorem dX7_wasOpenOn_12 : decode cX7_wasOpenOn 12 = .ok (.iconst (-1), 1) := by decide +kernel
theorem dX7_wasOpenOn_13 : decode cX7_wasOpenOn 13 = .ok (.if_icmp .eq 11, 3) := by decide +kernel
theorem dX7_wasOpenOn_16 : decode cX7_wasOpenOn 16 = .ok (.aload_n 0, 1) := by decide +kernel
theorem dX7_wasOpenOn_17 : decode cX7_wasOpenOn 17 = .ok (.getfield 17, 3) := by decide +kernel
theorem dX7_wasOpenOn_20 : decode cX7_wasOpenOn 20 = .ok (.iload_n 1, 1) := by decide +kernel
theorem dX7_wasOpenOn_21 : decode cX7_wasOpenOn 21 = .ok (.if_icmp .le 7, 3) := by decide +kernel
theorem dX7_wasOpenOn_24 : decode cX7_wasOpenOn 24 = .ok (.iconst 1, 1) := by decide +kernel
theorem dX7_wasOpenOn_25 : decode cX7_wasOpenOn 25 = .ok (.goto 4, 3) := by decide +kernel
theorem dX7_wasOpenOn_28 : decode cX7_wasOpenOn 28 = .ok (.iconst 0, 1) := by decide +kernel
theorem dX7_wasOpenOn_29 : decode cX7_wasOpenOn 29 = .ok (.ireturn, 1) := by decide +kernel
theorem dX7_shut_0 : decode cX7_shut 0 = .ok (.aload_n 0, 1) := by decide +kernel
theorem dX7_shut_1 : decode cX7_shut 1 = .ok (.iload_n 1, 1) := by decide +kernel
theorem dX7_shut_2 : decode cX7_shut 2 = .ok (.putfield 17, 3) := by decide +kernel
theorem dX7_shut_5 : decode cX7_shut 5 = .ok (.aload_n 0, 1) := by decide +kernel
theorem dX7_shut_6 : decode cX7_shut 6 = .ok (.iload_n 2, 1) := by decide +kernel
theorem dX7_shut_7 : decode cX7_shut 7 = .ok (.iload_n 1, 1) := by decide +kernel
theorem dX7_shut_8 : decode cX7_shut 8 = .ok (.invokevirtual 36, 3) := by decide +kernel
theorem dX7_shut_11 : decode cX7_shut 11 = .ok (.return_, 1) := by decide +kernel
theorem dX7_monthAt_0 : decode cX7_monthAt 0 = .ok (.iload_n 1, 1) := by decide +kernel
theorem dX7_monthAt_1 : decode cX7_monthAt 1 = .ok (.ifCond .lt 21, 3) := by decide +kernel
theorem dX7_monthAt_4 : decode cX7_monthAt 4 = .ok (.iload_n 1, 1) := by decide +kernel
theorem dX7_monthAt_5 : decode cX7_monthAt 5 = .ok (.aload_n 0, 1) := by decide +kernel
theorem dX7_monthAt_6 : decode cX7_monthAt 6 = .ok (.getfield 11, 3) := by decide +kernel
theorem dX7_monthAt_9 : decode cX7_monthAt 9 = .ok (.arraylength, 1) := by decide +kernel
theorem dX7_monthAt_10 : decode cX7_monthAt 10 = .ok (.if_icmp .ge 12, 3) := by decide +kernel
theorem dX7_monthAt_13 : decode cX7_monthAt 13 = .ok (.aload_n 0, 1) := by decide +kernel
theorem dX7_monthAt_14 : decode cX7_monthAt 14 = .ok (.getfield 11, 3) := by decide +kernel
theorem dX7_monthAt_17 : decode cX7_monthAt 17 = .ok (.iload_n 1, 1) := by decide +kernel
theorem dX7_monthAt_18 : decode cX7_monthAt 18 = .ok (.aaload, 1) := by decide +kernel
theorem dX7_monthAt_19 : decode cX7_monthAt 19 = .ok (.goto 4, 3) := by decide +kernel
theorem dX7_monthAt_22 : decode cX7_monthAt 22 = .ok (.aconst_null, 1) := by decide +kernel
theorem dX7_monthAt_23 : decode cX7_monthAt 23 = .ok (.areturn, 1) := by decide +kernel
theorem dX7_keepMonth_0 : decode cX7_keepMonth 0 = .ok (.iload_n 1, 1) := by decide +kernel
theorem dX7_keepMonth_1 : decode cX7_keepMonth 1 = .ok (.ifCond .lt 19, 3) := by decide +kernel
theorem dX7_keepMonth_4 : decode cX7_keepMonth 4 = .ok (.iload_n 1, 1) := by decide +kernel
theorem dX7_keepMonth_5 : decode cX7_keepMonth 5 = .ok (.aload_n 0, 1) := by decide +kernel
theorem dX7_keepMonth_6 : decode cX7_keepMonth 6 = .ok (.getfield 11, 3) := by decide +kernel
theorem dX7_keepMonth_9 : decode cX7_keepMonth 9 = .ok (.arraylength, 1) := by decide +kernel
theorem dX7_keepMonth_10 : decode cX7_keepMonth 10 = .ok (.if_icmp .ge 10, 3) := by decide +kernel
theorem dX7_keepMonth_13 : decode cX7_keepMonth 13 = .ok (.aload_n 0, 1) := by decide +kernel
theorem dX7_keepMonth_14 : decode cX7_keepMonth 14 = .ok (.getfield 11, 3) := by decide +kernel
theorem dX7_keepMonth_17 : decode cX7_keepMonth 17 = .ok (.iload_n 1, 1) := by decide +kernel
theorem dX7_keepMonth_18 : decode cX7_keepMonth 18 = .ok (.aload_n 2, 1) := by decide +kernel
theorem dX7_keepMonth_19 : decode cX7_keepMonth 19 = .ok (.aastore, 1) := by decide +kernel
theorem dX7_keepMonth_20 : decode cX7_keepMonth 20 = .ok (.return_, 1) := by decide +kernel
theorem dX7_charge_0 : decode cX7_charge 0 = .ok (.aload_n 1, 1) := by decide +kernel
theorem dX7_charge_1 : decode cX7_charge 1 = .ok (.iload_n 2, 1) := by decide +kernel
theorem dX7_charge_2 : decode cX7_charge 2 = .ok (.putfield 40, 3) := by decide +kernel
theorem dX7_charge_5 : decode cX7_charge 5 = .ok (.aload_n 1, 1) := by decide +kernel
theorem dX7_charge_6 : decode cX7_charge 6 = .ok (.iload_n 3, 1) := by decide +kernel
theorem dX7_charge_7 : decode cX7_charge 7 = .ok (.putfield 43, 3) := by decide +kernel
theorem dX7_charge_10 : decode cX7_charge 10 = .ok (.aload_n 0, 1) := by decide +kernel
theorem dX7_charge_11 : decode cX7_charge 11 = .ok (.dup, 1) := by decide +kernel
theorem dX7_charge_12 : decode cX7_charge 12 = .ok (.getfield 46, 3) := by decide +kernel
theorem dX7_charge_15 : decode cX7_charge 15 = .ok (.iload_n 2, 1) := by decide +kernel
theorem dX7_charge_16 : decode cX7_charge 16 = .ok (.iload_n 3, 1) := by decide +kernel
theorem dX7_charge_17 : decode cX7_charge 17 = .ok (.iadd, 1) := by decide +kernel
theorem dX7_charge_18 : decode cX7_charge 18 = .ok (.iadd, 1) := by decide +kernel
theorem dX7_charge_19 : decode cX7_charge 19 = .ok (.putfield 46, 3) := by decide +kernel
theorem dX7_charge_22 : decode cX7_charge 22 = .ok (.return_, 1) := by decide +kernel
theorem dX7_settle_0 : decode cX7_settle 0 = .ok (.aload_n 0, 1) := by decide +kernel
theorem dX7_settle_1 : decode cX7_settle 1 = .ok (.dup, 1) := by decide +kernel
theorem dX7_settle_2 : decode cX7_settle 2 = .ok (.getfield 49, 3) := by decide +kernel
theorem dX7_settle_5 : decode cX7_settle 5 = .ok (.iload_n 1, 1) := by decide +kernel
theorem dX7_settle_6 : decode cX7_settle 6 = .ok (.iadd, 1) := by decide +kernel
theorem dX7_settle_7 : decode cX7_settle 7 = .ok (.putfield 49, 3) := by decide +kernel
theorem dX7_settle_10 : decode cX7_settle 10 = .ok (.iconst 0, 1) := by decide +kernel
theorem dX7_settle_11 : decode cX7_settle 11 = .ok (.istore_n 3, 1) := by decide +kernel
theorem dX7_settle_12 : decode cX7_settle 12 = .ok (.iconst 0, 1) := by decide +kernel
theorem dX7_settle_13 : decode cX7_settle 13 = .ok (.istore 4, 2) := by decide +kernel
theorem dX7_settle_15 : decode cX7_settle 15 = .ok (.iload 4, 2) := by decide +kernel
theorem dX7_settle_17 : decode cX7_settle 17 = .ok (.aload_n 0, 1) := by decide +kernel
theorem dX7_settle_18 : decode cX7_settle 18 = .ok (.getfield 11, 3) := by decide +kernel
theorem dX7_settle_21 : decode cX7_settle 21 = .ok (.arraylength, 1) := by decide +kernel
theorem dX7_settle_22 : decode cX7_settle 22 = .ok (.if_icmp .ge 91, 3) := by decide +kernel
theorem dX7_settle_25 : decode cX7_settle 25 = .ok (.aload_n 0, 1) := by decide +kernel
theorem dX7_settle_26 : decode cX7_settle 26 = .ok (.getfield 49, 3) := by decide +kernel
theorem dX7_settle_29 : decode cX7_settle 29 = .ok (.ifCond .le 84, 3) := by decide +kernel
theorem dX7_settle_32 : decode cX7_settle 32 = .ok (.aload_n 0, 1) := by decide +kernel
theorem dX7_settle_33 : decode cX7_settle 33 = .ok (.getfield 11, 3) := by decide +kernel
theorem dX7_settle_36 : decode cX7_settle 36 = .ok (.iload 4, 2) := by decide +kernel
theorem dX7_settle_38 : decode cX7_settle 38 = .ok (.aaload, 1) := by decide +kernel
theorem dX7_settle_39 : decode cX7_settle 39 = .ok (.astore 5, 2) := by decide +kernel
theorem dX7_settle_41 : decode cX7_settle 41 = .ok (.aload 5, 2) := by decide +kernel
theorem dX7_settle_43 : decode cX7_settle 43 = .ok (.ifnonnull 6, 3) := by decide +kernel
theorem dX7_settle_46 : decode cX7_settle 46 = .ok (.goto 61, 3) := by decide +kernel
theorem dX7_settle_49 : decode cX7_settle 49 = .ok (.aload 5, 2) := by decide +kernel
theorem dX7_settle_51 : decode cX7_settle 51 = .ok (.aload_n 0, 1) := by decide +kernel
theorem dX7_settle_52 : decode cX7_settle 52 = .ok (.getfield 49, 3) := by decide +kernel
theorem dX7_settle_55 : decode cX7_settle 55 = .ok (.invokevirtual 52, 3) := by decide +kernel
theorem dX7_settle_58 : decode cX7_settle 58 = .ok (.istore 6, 2) := by decide +kernel
theorem dX7_settle_60 : decode cX7_settle 60 = .ok (.aload 5, 2) := by decide +kernel
theorem dX7_settle_62 : decode cX7_settle 62 = .ok (.aload_n 0, 1) := by decide +kernel
theorem dX7_settle_63 : decode cX7_settle 63 = .ok (.getfield 49, 3) := by decide +kernel
theorem dX7_settle_66 : decode cX7_settle 66 = .ok (.iload 6, 2) := by decide +kernel
theorem dX7_settle_68 : decode cX7_settle 68 = .ok (.isub, 1) := by decide +kernel
theorem dX7_settle_69 : decode cX7_settle 69 = .ok (.invokevirtual 56, 3) := by decide +kernel
theorem dX7_settle_72 : decode cX7_settle 72 = .ok (.istore 7, 2) := by decide +kernel
theorem dX7_settle_74 : decode cX7_settle 74 = .ok (.aload_n 0, 1) := by decide +kernel
theorem dX7_settle_75 : decode cX7_settle 75 = .ok (.dup, 1) := by decide +kernel
theorem dX7_settle_76 : decode cX7_settle 76 = .ok (.getfield 49, 3) := by decide +kernel
theorem dX7_settle_79 : decode cX7_settle 79 = .ok (.iload 6, 2) := by decide +kernel
theorem dX7_settle_81 : decode cX7_settle 81 = .ok (.iload 7, 2) := by decide +kernel
theorem dX7_settle_83 : decode cX7_settle 83 = .ok (.iadd, 1) := by decide +kernel
theorem dX7_settle_84 : decode cX7_settle 84 = .ok (.isub, 1) := by decide +kernel
theorem dX7_settle_85 : decode cX7_settle 85 = .ok (.putfield 49, 3) := by decide +kernel
theorem dX7_settle_88 : decode cX7_settle 88 = .ok (.aload_n 0, 1) := by decide +kernel
theorem dX7_settle_89 : decode cX7_settle 89 = .ok (.dup, 1) := by decide +kernel
theorem dX7_settle_90 : decode cX7_settle 90 = .ok (.getfield 46, 3) := by decide +kernel
theorem dX7_settle_93 : decode cX7_settle 93 = .ok (.iload 6, 2) := by decide +kernel
theorem dX7_settle_95 : decode cX7_settle 95 = .ok (.iload 7, 2) := by decide +kernel
theorem dX7_settle_97 : decode cX7_settle 97 = .ok (.iadd, 1) := by decide +kernel
theorem dX7_settle_98 : decode cX7_settle 98 = .ok (.isub, 1) := by decide +kernel
theorem dX7_settle_99 : decode cX7_settle 99 = .ok (.putfield 46, 3) := by decide +kernel
theorem dX7_settle_102 : decode cX7_settle 102 = .ok (.iload_n 3, 1) := by decide +kernel
theorem dX7_settle_103 : decode cX7_settle 103 = .ok (.iload 7, 2) := by decide +kernel
theorem dX7_settle_105 : decode cX7_settle 105 = .ok (.iadd, 1) := by decide +kernel
theorem dX7_settle_106 : decode cX7_settle 106 = .ok (.istore_n 3, 1) := by decide +kernel
theorem dX7_settle_107 : decode cX7_settle 107 = .ok (.iinc 4 1, 3) := by decide +kernel
theorem dX7_settle_110 : decode cX7_settle 110 = .ok (.goto (-95), 3) := by decide +kernel
theorem dX7_settle_113 : decode cX7_settle 113 = .ok (.aload_n 0, 1) := by decide +kernel
theorem dX7_settle_114 : decode cX7_settle 114 = .ok (.getfield 46, 3) := by decide +kernel
theorem dX7_settle_117 : decode cX7_settle 117 = .ok (.ifCond .ne 9, 3) := by decide +kernel
theorem dX7_settle_120 : decode cX7_settle 120 = .ok (.aload_n 0, 1) := by decide +kernel
theorem dX7_settle_121 : decode cX7_settle 121 = .ok (.iconst 1, 1) := by decide +kernel
theorem dX7_settle_122 : decode cX7_settle 122 = .ok (.iload_n 2, 1) := by decide +kernel
theorem dX7_settle_123 : decode cX7_settle 123 = .ok (.invokevirtual 36, 3) := by decide +kernel
theorem dX7_settle_126 : decode cX7_settle 126 = .ok (.iload_n 3, 1) := by decide +kernel
theorem dX7_settle_127 : decode cX7_settle 127 = .ok (.ireturn, 1) := by decide +kernel
theorem dX7_balance_0 : decode cX7_balance 0 = .ok (.aload_n 0, 1) := by decide +kernel
theorem dX7_balance_1 : decode cX7_balance 1 = .ok (.getfield 46, 3) := by decide +kernel
theorem dX7_balance_4 : decode cX7_balance 4 = .ok (.aload_n 0, 1) := by decide +kernel
theorem dX7_balance_5 : decode cX7_balance 5 = .ok (.getfield 49, 3) := by decide +kernel
theorem dX7_balance_8 : decode cX7_balance 8 = .ok (.isub, 1) := by decide +kernel
theorem dX7_balance_9 : decode cX7_balance 9 = .ok (.ireturn, 1) := by decide +kernel
theorem dX7_shortMonthsUpTo_0 : decode cX7_shortMonthsUpTo 0 = .ok (.iconst 0, 1) := by decide +kernel
theorem dX7_shortMonthsUpTo_1 : decode cX7_shortMonthsUpTo 1 = .ok (.istore_n 3, 1) := by decide +kernel
theorem dX7_shortMonthsUpTo_2 : decode cX7_shortMonthsUpTo 2 = .ok (.iconst 0, 1) := by decide +kernel
theorem dX7_shortMonthsUpTo_3 : decode cX7_shortMonthsUpTo 3 = .ok (.istore 4, 2) := by decide +kernel
theorem dX7_shortMonthsUpTo_5 : decode cX7_shortMonthsUpTo 5 = .ok (.iload_n 1, 1) := by decide +kernel
theorem dX7_shortMonthsUpTo_6 : decode cX7_shortMonthsUpTo 6 = .ok (.istore 5, 2) := by decide +kernel
theorem dX7_shortMonthsUpTo_8 : decode cX7_shortMonthsUpTo 8 = .ok (.iload 5, 2) := by decide +kernel
theorem dX7_shortMonthsUpTo_10 : decode cX7_shortMonthsUpTo 10 = .ok (.ifCond .lt 46, 3) := by decide +kernel
theorem dX7_shortMonthsUpTo_13 : decode cX7_shortMonthsUpTo 13 = .ok (.iload_n 3, 1) := by decide +kernel
theorem dX7_shortMonthsUpTo_14 : decode cX7_shortMonthsUpTo 14 = .ok (.bipush 6, 2) := by decide +kernel
theorem dX7_shortMonthsUpTo_16 : decode cX7_shortMonthsUpTo 16 = .ok (.if_icmp .ge 40, 3) := by decide +kernel
theorem dX7_shortMonthsUpTo_19 : decode cX7_shortMonthsUpTo 19 = .ok (.aload_n 0, 1) := by decide +kernel
theorem dX7_shortMonthsUpTo_20 : decode cX7_shortMonthsUpTo 20 = .ok (.iload 5, 2) := by decide +kernel
theorem dX7_shortMonthsUpTo_22 : decode cX7_shortMonthsUpTo 22 = .ok (.invokevirtual 59, 3) := by decide +kernel
theorem dX7_shortMonthsUpTo_25 : decode cX7_shortMonthsUpTo 25 = .ok (.astore 6, 2) := by decide +kernel
theorem dX7_shortMonthsUpTo_27 : decode cX7_shortMonthsUpTo 27 = .ok (.aload 6, 2) := by decide +kernel
theorem dX7_shortMonthsUpTo_29 : decode cX7_shortMonthsUpTo 29 = .ok (.ifnonnull 6, 3) := by decide +kernel
theorem dX7_shortMonthsUpTo_32 : decode cX7_shortMonthsUpTo 32 = .ok (.goto 18, 3) := by decide +kernel
theorem dX7_shortMonthsUpTo_35 : decode cX7_shortMonthsUpTo 35 = .ok (.iinc 3 1, 3) := by decide +kernel
theorem dX7_shortMonthsUpTo_38 : decode cX7_shortMonthsUpTo 38 = .ok (.aload 6, 2) := by decide +kernel
theorem dX7_shortMonthsUpTo_40 : decode cX7_shortMonthsUpTo 40 = .ok (.iload_n 2, 1) := by decide +kernel
theorem dX7_shortMonthsUpTo_41 : decode cX7_shortMonthsUpTo 41 = .ok (.invokevirtual 63, 3) := by decide +kernel
theorem dX7_shortMonthsUpTo_44 : decode cX7_shortMonthsUpTo 44 = .ok (.ifCond .eq 6, 3) := by decide +kernel
theorem dX7_shortMonthsUpTo_47 : decode cX7_shortMonthsUpTo 47 = .ok (.iinc 4 1, 3) := by decide +kernel
theorem dX7_shortMonthsUpTo_50 : decode cX7_shortMonthsUpTo 50 = .ok (.iinc 5 (-1), 3) := by decide +kernel
theorem dX7_shortMonthsUpTo_53 : decode cX7_shortMonthsUpTo 53 = .ok (.goto (-45), 3) := by decide +kernel
theorem dX7_shortMonthsUpTo_56 : decode cX7_shortMonthsUpTo 56 = .ok (.iload 4, 2) := by decide +kernel
theorem dX7_shortMonthsUpTo_58 : decode cX7_shortMonthsUpTo 58 = .ok (.ireturn, 1) := by decide +kernel
theorem dX7_giveNotice_0 : decode cX7_giveNotice 0 = .ok (.aload_n 0, 1) := by decide +kernel
theorem dX7_giveNotice_1 : decode cX7_giveNotice 1 = .ok (.iload_n 1, 1) := by decide +kernel
theorem dX7_giveNotice_2 : decode cX7_giveNotice 2 = .ok (.putfield 21, 3) := by decide +kernel
theorem dX7_giveNotice_5 : decode cX7_giveNotice 5 = .ok (.aload_n 0, 1) := by decide +kernel
theorem dX7_giveNotice_6 : decode cX7_giveNotice 6 = .ok (.iload_n 2, 1) := by decide +kernel
theorem dX7_giveNotice_7 : decode cX7_giveNotice 7 = .ok (.putfield 67, 3) := by decide +kernel
theorem dX7_giveNotice_10 : decode cX7_giveNotice 10 = .ok (.aload_n 0, 1) := by decide +kernel
theorem dX7_giveNotice_11 : decode cX7_giveNotice 11 = .ok (.iconst 0, 1) := by decide +kernel
theorem dX7_giveNotice_12 : decode cX7_giveNotice 12 = .ok (.putfield 70, 3) := by decide +kernel
theorem dX7_giveNotice_15 : decode cX7_giveNotice 15 = .ok (.aload_n 0, 1) := by decide +kernel
theorem dX7_giveNotice_16 : decode cX7_giveNotice 16 = .ok (.iconst (-1), 1) := by decide +kernel
theorem dX7_giveNotice_17 : decode cX7_giveNotice 17 = .ok (.putfield 73, 3) := by decide +kernel
theorem dX7_giveNotice_20 : decode cX7_giveNotice 20 = .ok (.return_, 1) := by decide +kernel
theorem dX7_hasRunningNotice_0 : decode cX7_hasRunningNotice 0 = .ok (.aload_n 0, 1) := by decide +kernel
theorem dX7_hasRunningNotice_1 : decode cX7_hasRunningNotice 1 = .ok (.getfield 21, 3) := by decide +kernel
theorem dX7_hasRunningNotice_4 : decode cX7_hasRunningNotice 4 = .ok (.iconst (-1), 1) := by decide +kernel
theorem dX7_hasRunningNotice_5 : decode cX7_hasRunningNotice 5 = .ok (.if_icmp .eq 14, 3) := by decide +kernel
theorem dX7_hasRunningNotice_8 : decode cX7_hasRunningNotice 8 = .ok (.aload_n 0, 1) := by decide +kernel
theorem dX7_hasRunningNotice_9 : decode cX7_hasRunningNotice 9 = .ok (.getfield 70, 3) := by decide +kernel
theorem dX7_hasRunningNotice_12 : decode cX7_hasRunningNotice 12 = .ok (.ifCond .ne 7, 3) := by decide +kernel
theorem dX7_hasRunningNotice_15 : decode cX7_hasRunningNotice 15 = .ok (.iconst 1, 1) := by decide +kernel
theorem dX7_hasRunningNotice_16 : decode cX7_hasRunningNotice 16 = .ok (.goto 4, 3) := by decide +kernel
theorem dX7_hasRunningNotice_19 : decode cX7_hasRunningNotice 19 = .ok (.iconst 0, 1) := by decide +kernel
theorem dX7_hasRunningNotice_20 : decode cX7_hasRunningNotice 20 = .ok (.ireturn, 1) := by decide +kernel
theorem dX7_endNotice_0 : decode cX7_endNotice 0 = .ok (.aload_n 0, 1) := by decide +kernel
theorem dX7_endNotice_1 : decode cX7_endNotice 1 = .ok (.invokevirtual 76, 3) := by decide +kernel
theorem dX7_endNotice_4 : decode cX7_endNotice 4 = .ok (.ifCond .ne 4, 3) := by decide +kernel
theorem dX7_endNotice_7 : decode cX7_endNotice 7 = .ok (.return_, 1) := by decide +kernel
theorem dX7_endNotice_8 : decode cX7_endNotice 8 = .ok (.aload_n 0, 1) := by decide +kernel
theorem dX7_endNotice_9 : decode cX7_endNotice 9 = .ok (.iload_n 1, 1) := by decide +kernel
theorem dX7_endNotice_10 : decode cX7_endNotice 10 = .ok (.putfield 70, 3) := by decide +kernel
theorem dX7_endNotice_13 : decode cX7_endNotice 13 = .ok (.aload_n 0, 1) := by decide +kernel
theorem dX7_endNotice_14 : decode cX7_endNotice 14 = .ok (.iload_n 2, 1) := by decide +kernel
theorem dX7_endNotice_15 : decode cX7_endNotice 15 = .ok (.putfield 73, 3) := by decide +kernel
theorem dX7_endNotice_18 : decode cX7_endNotice 18 = .ok (.return_, 1) := by decide +kernel
theorem dX8_init_0 : decode cX8_init 0 = .ok (.aload_n 0, 1) := by decide +kernel
theorem dX8_init_1 : decode cX8_init 1 = .ok (.invokespecial 3, 3) := by decide +kernel
theorem dX8_init_4 : decode cX8_init 4 = .ok (.aload_n 0, 1) := by decide +kernel
theorem dX8_init_5 : decode cX8_init 5 = .ok (.bipush 10, 2) := by decide +kernel
theorem dX8_init_7 : decode cX8_init 7 = .ok (.newarray .int, 2) := by decide +kernel
theorem dX8_init_9 : decode cX8_init 9 = .ok (.putfield 9, 3) := by decide +kernel
theorem dX8_init_12 : decode cX8_init 12 = .ok (.aload_n 0, 1) := by decide +kernel
theorem dX8_init_13 : decode cX8_init 13 = .ok (.bipush 40, 2) := by decide +kernel
theorem dX8_init_15 : decode cX8_init 15 = .ok (.newarray .int, 2) := by decide +kernel
theorem dX8_init_17 : decode cX8_init 17 = .ok (.putfield 15, 3) := by decide +kernel
theorem dX8_init_20 : decode cX8_init 20 = .ok (.aload_n 0, 1) := by decide +kernel
theorem dX8_init_21 : decode cX8_init 21 = .ok (.iconst 3, 1) := by decide +kernel
theorem dX8_init_22 : decode cX8_init 22 = .ok (.newarray .int, 2) := by decide +kernel
theorem dX8_init_24 : decode cX8_init 24 = .ok (.putfield 18, 3) := by decide +kernel
theorem dX8_init_27 : decode cX8_init 27 = .ok (.aload_n 0, 1) := by decide +kernel
theorem dX8_init_28 : decode cX8_init 28 = .ok (.iconst 3, 1) := by decide +kernel
theorem dX8_init_29 : decode cX8_init 29 = .ok (.newarray .int, 2) := by decide +kernel
theorem dX8_init_31 : decode cX8_init 31 = .ok (.putfield 21, 3) := by decide +kernel
theorem dX8_init_34 : decode cX8_init 34 = .ok (.aload_n 0, 1) := by decide +kernel
theorem dX8_init_35 : decode cX8_init 35 = .ok (.aload_n 1, 1) := by decide +kernel
theorem dX8_init_36 : decode cX8_init 36 = .ok (.putfield 24, 3) := by decide +kernel
theorem dX8_init_39 : decode cX8_init 39 = .ok (.aload_n 0, 1) := by decide +kernel
theorem dX8_init_40 : decode cX8_init 40 = .ok (.aload_n 2, 1) := by decide +kernel
theorem dX8_init_41 : decode cX8_init 41 = .ok (.putfield 28, 3) := by decide +kernel
theorem dX8_init_44 : decode cX8_init 44 = .ok (.aload_n 0, 1) := by decide +kernel
theorem dX8_init_45 : decode cX8_init 45 = .ok (.aload_n 3, 1) := by decide +kernel
theorem dX8_init_46 : decode cX8_init 46 = .ok (.putfield 32, 3) := by decide +kernel
theorem dX8_init_49 : decode cX8_init 49 = .ok (.return_, 1) := by decide +kernel
theorem dX8_foundAt_0 : decode cX8_foundAt 0 = .ok (.iload_n 1, 1) := by decide +kernel
theorem dX8_foundAt_1 : decode cX8_foundAt 1 = .ok (.ifCond .lt 22, 3) := by decide +kernel
theorem dX8_foundAt_4 : decode cX8_foundAt 4 = .ok (.iload_n 1, 1) := by decide +kernel
theorem dX8_foundAt_5 : decode cX8_foundAt 5 = .ok (.aload_n 0, 1) := by decide +kernel
theorem dX8_foundAt_6 : decode cX8_foundAt 6 = .ok (.getfield 36, 3) := by decide +kernel
theorem dX8_foundAt_9 : decode cX8_foundAt 9 = .ok (.if_icmp .ge 14, 3) := by decide +kernel
theorem dX8_foundAt_12 : decode cX8_foundAt 12 = .ok (.aload_n 0, 1) := by decide +kernel
theorem dX8_foundAt_13 : decode cX8_foundAt 13 = .ok (.getfield 21, 3) := by decide +kernel
theorem dX8_foundAt_16 : decode cX8_foundAt 16 = .ok (.iload_n 1, 1) := by decide +kernel
theorem dX8_foundAt_17 : decode cX8_foundAt 17 = .ok (.invokestatic 40, 3) := by decide +kernel
theorem dX8_foundAt_20 : decode cX8_foundAt 20 = .ok (.goto 4, 3) := by decide +kernel
theorem dX8_foundAt_23 : decode cX8_foundAt 23 = .ok (.iconst (-1), 1) := by decide +kernel
theorem dX8_foundAt_24 : decode cX8_foundAt 24 = .ok (.ireturn, 1) := by decide +kernel
theorem dX8_findBest_0 : decode cX8_findBest 0 = .ok (.aload_n 0, 1) := by decide +kernel
theorem dX8_findBest_1 : decode cX8_findBest 1 = .ok (.iload_n 1, 1) := by decide +kernel
theorem dX8_findBest_2 : decode cX8_findBest 2 = .ok (.putfield 44, 3) := by decide +kernel
theorem dX8_findBest_5 : decode cX8_findBest 5 = .ok (.aload_n 0, 1) := by decide +kernel
theorem dX8_findBest_6 : decode cX8_findBest 6 = .ok (.iload_n 2, 1) := by decide +kernel
theorem dX8_findBest_7 : decode cX8_findBest 7 = .ok (.invokestatic 47, 3) := by decide +kernel
theorem dX8_findBest_10 : decode cX8_findBest 10 = .ok (.putfield 51, 3) := by decide +kernel
theorem dX8_findBest_13 : decode cX8_findBest 13 = .ok (.aload_n 0, 1) := by decide +kernel
theorem dX8_findBest_14 : decode cX8_findBest 14 = .ok (.iload_n 2, 1) := by decide +kernel
theorem dX8_findBest_15 : decode cX8_findBest 15 = .ok (.invokestatic 54, 3) := by decide +kernel
theorem dX8_findBest_18 : decode cX8_findBest 18 = .ok (.putfield 57, 3) := by decide +kernel
theorem dX8_findBest_21 : decode cX8_findBest 21 = .ok (.aload_n 0, 1) := by decide +kernel
theorem dX8_findBest_22 : decode cX8_findBest 22 = .ok (.iload_n 3, 1) := by decide +kernel
theorem dX8_findBest_23 : decode cX8_findBest 23 = .ok (.putfield 60, 3) := by decide +kernel
theorem dX8_findBest_26 : decode cX8_findBest 26 = .ok (.aload_n 0, 1) := by decide +kernel
theorem dX8_findBest_27 : decode cX8_findBest 27 = .ok (.bipush (-4), 2) := by decide +kernel
theorem dX8_findBest_29 : decode cX8_findBest 29 = .ok (.putfield 63, 3) := by decide +kernel
theorem dX8_findBest_32 : decode cX8_findBest 32 = .ok (.aload_n 0, 1) := by decide +kernel
theorem dX8_findBest_33 : decode cX8_findBest 33 = .ok (.getfield 32, 3) := by decide +kernel
theorem dX8_findBest_36 : decode cX8_findBest 36 = .ok (.aload_n 0, 1) := by decide +kernel
theorem dX8_findBest_37 : decode cX8_findBest 37 = .ok (.getfield 28, 3) := by decide +kernel
theorem dX8_findBest_40 : decode cX8_findBest 40 = .ok (.invokevirtual 66, 3) := by decide +kernel
theorem dX8_findBest_43 : decode cX8_findBest 43 = .ok (.iconst 0, 1) := by decide +kernel
theorem dX8_findBest_44 : decode cX8_findBest 44 = .ok (.istore 4, 2) := by decide +kernel
theorem dX8_findBest_46 : decode cX8_findBest 46 = .ok (.iload 4, 2) := by decide +kernel
theorem dX8_findBest_48 : decode cX8_findBest 48 = .ok (.aload_n 0, 1) := by decide +kernel
theorem dX8_findBest_49 : decode cX8_findBest 49 = .ok (.getfield 15, 3) := by decide +kernel
theorem dX8_findBest_52 : decode cX8_findBest 52 = .ok (.arraylength, 1) := by decide +kernel
theorem dX8_findBest_53 : decode cX8_findBest 53 = .ok (.if_icmp .ge 25, 3) := by decide +kernel
theorem dX8_findBest_56 : decode cX8_findBest 56 = .ok (.aload_n 0, 1) := by decide +kernel
theorem dX8_findBest_57 : decode cX8_findBest 57 = .ok (.getfield 15, 3) := by decide +kernel
theorem dX8_findBest_60 : decode cX8_findBest 60 = .ok (.iload 4, 2) := by decide +kernel
theorem dX8_findBest_62 : decode cX8_findBest 62 = .ok (.aload_n 0, 1) := by decide +kernel
theorem dX8_findBest_63 : decode cX8_findBest 63 = .ok (.getfield 32, 3) := by decide +kernel
theorem dX8_findBest_66 : decode cX8_findBest 66 = .ok (.iload 4, 2) := by decide +kernel
theorem dX8_findBest_68 : decode cX8_findBest 68 = .ok (.invokevirtual 72, 3) := by decide +kernel
theorem dX8_findBest_71 : decode cX8_findBest 71 = .ok (.iastore, 1) := by decide +kernel
theorem dX8_findBest_72 : decode cX8_findBest 72 = .ok (.iinc 4 1, 3) := by decide +kernel
theorem dX8_findBest_75 : decode cX8_findBest 75 = .ok (.goto (-29), 3) := by decide +kernel
theorem dX8_findBest_78 : decode cX8_findBest 78 = .ok (.aload_n 0, 1) := by decide +kernel
theorem dX8_findBest_79 : decode cX8_findBest 79 = .ok (.invokevirtual 75, 3) := by decide +kernel
theorem dX8_findBest_82 : decode cX8_findBest 82 = .ok (.aload_n 0, 1) := by decide +kernel
theorem dX8_findBest_83 : decode cX8_findBest 83 = .ok (.iconst 0, 1) := by decide +kernel
theorem dX8_findBest_84 : decode cX8_findBest 84 = .ok (.iconst 0, 1) := by decide +kernel
theorem dX8_findBest_85 : decode cX8_findBest 85 = .ok (.invokevirtual 78, 3) := by decide +kernel
theorem dX8_findBest_88 : decode cX8_findBest 88 = .ok (.aload_n 0, 1) := by decide +kernel
theorem dX8_findBest_89 : decode cX8_findBest 89 = .ok (.getfield 63, 3) := by decide +kernel
theorem dX8_findBest_92 : decode cX8_findBest 92 = .ok (.ireturn, 1) := by decide +kernel
theorem dX8_collectFree_0 : decode cX8_collectFree 0 = .ok (.aload_n 0, 1) := by decide +kernel
theorem dX8_collectFree_1 : decode cX8_collectFree 1 = .ok (.iconst 0, 1) := by decide +kernel
theorem dX8_collectFree_2 : decode cX8_collectFree 2 = .ok (.putfield 82, 3) := by decide +kernel
theorem dX8_collectFree_5 : decode cX8_collectFree 5 = .ok (.iconst 0, 1) := by decide +kernel
theorem dX8_collectFree_6 : decode cX8_collectFree 6 = .ok (.istore_n 1, 1) := by decide +kernel
theorem dX8_collectFree_7 : decode cX8_collectFree 7 = .ok (.iload_n 1, 1) := by decide +kernel
theorem dX8_collectFree_8 : decode cX8_collectFree 8 = .ok (.aload_n 0, 1) := by decide +kernel
theorem dX8_collectFree_9 : decode cX8_collectFree 9 = .ok (.getfield 24, 3) := by decide +kernel
theorem dX8_collectFree_12 : decode cX8_collectFree 12 = .ok (.getfield 85, 3) := by decide +kernel
theorem dX8_collectFree_15 : decode cX8_collectFree 15 = .ok (.if_icmp .ge 69, 3) := by decide +kernel
theorem dX8_collectFree_18 : decode cX8_collectFree 18 = .ok (.aload_n 0, 1) := by decide +kernel
theorem dX8_collectFree_19 : decode cX8_collectFree 19 = .ok (.getfield 24, 3) := by decide +kernel
theorem dX8_collectFree_22 : decode cX8_collectFree 22 = .ok (.iload_n 1, 1) := by decide +kernel
theorem dX8_collectFree_23 : decode cX8_collectFree 23 = .ok (.invokevirtual 90, 3) := by decide +kernel
theorem dX8_collectFree_26 : decode cX8_collectFree 26 = .ok (.istore_n 2, 1) := by decide +kernel
theorem dX8_collectFree_27 : decode cX8_collectFree 27 = .ok (.aload_n 0, 1) := by decide +kernel
theorem dX8_collectFree_28 : decode cX8_collectFree 28 = .ok (.getfield 28, 3) := by decide +kernel
theorem dX8_collectFree_31 : decode cX8_collectFree 31 = .ok (.iload_n 2, 1) := by decide +kernel
theorem dX8_collectFree_32 : decode cX8_collectFree 32 = .ok (.invokevirtual 93, 3) := by decide +kernel
theorem dX8_collectFree_35 : decode cX8_collectFree 35 = .ok (.ifCond .ne 43, 3) := by decide +kernel
theorem dX8_collectFree_38 : decode cX8_collectFree 38 = .ok (.aload_n 0, 1) := by decide +kernel
theorem dX8_collectFree_39 : decode cX8_collectFree 39 = .ok (.getfield 28, 3) := by decide +kernel
theorem dX8_collectFree_42 : decode cX8_collectFree 42 = .ok (.iload_n 2, 1) := by decide +kernel
theorem dX8_collectFree_43 : decode cX8_collectFree 43 = .ok (.aload_n 0, 1) := by decide +kernel
theorem dX8_collectFree_44 : decode cX8_collectFree 44 = .ok (.getfield 51, 3) := by decide +kernel
theorem dX8_collectFree_47 : decode cX8_collectFree 47 = .ok (.invokevirtual 99, 3) := by decide +kernel
theorem dX8_collectFree_50 : decode cX8_collectFree 50 = .ok (.ifCond .eq 6, 3) := by decide +kernel
theorem dX8_collectFree_53 : decode cX8_collectFree 53 = .ok (.goto 25, 3) := by decide +kernel
theorem dX8_collectFree_56 : decode cX8_collectFree 56 = .ok (.aload_n 0, 1) := by decide +kernel
theorem dX8_collectFree_57 : decode cX8_collectFree 57 = .ok (.getfield 9, 3) := by decide +kernel
theorem dX8_collectFree_60 : decode cX8_collectFree 60 = .ok (.aload_n 0, 1) := by decide +kernel
theorem dX8_collectFree_61 : decode cX8_collectFree 61 = .ok (.getfield 82, 3) := by decide +kernel
theorem dX8_collectFree_64 : decode cX8_collectFree 64 = .ok (.iload_n 2, 1) := by decide +kernel
theorem dX8_collectFree_65 : decode cX8_collectFree 65 = .ok (.invokestatic 103, 3) := by decide +kernel
theorem dX8_collectFree_68 : decode cX8_collectFree 68 = .ok (.aload_n 0, 1) := by decide +kernel
theorem dX8_collectFree_69 : decode cX8_collectFree 69 = .ok (.dup, 1) := by decide +kernel
theorem dX8_collectFree_70 : decode cX8_collectFree 70 = .ok (.getfield 82, 3) := by decide +kernel
theorem dX8_collectFree_73 : decode cX8_collectFree 73 = .ok (.iconst 1, 1) := by decide +kernel
theorem dX8_collectFree_74 : decode cX8_collectFree 74 = .ok (.iadd, 1) := by decide +kernel
theorem dX8_collectFree_75 : decode cX8_collectFree 75 = .ok (.putfield 82, 3) := by decide +kernel
theorem dX8_collectFree_78 : decode cX8_collectFree 78 = .ok (.iinc 1 1, 3) := by decide +kernel
theorem dX8_collectFree_81 : decode cX8_collectFree 81 = .ok (.goto (-74), 3) := by decide +kernel
theorem dX8_collectFree_84 : decode cX8_collectFree 84 = .ok (.return_, 1) := by decide +kernel
theorem dX8_choose_0 : decode cX8_choose 0 = .ok (.iload_n 1, 1) := by decide +kernel
theorem dX8_choose_1 : decode cX8_choose 1 = .ok (.aload_n 0, 1) := by decide +kernel
theorem dX8_choose_2 : decode cX8_choose 2 = .ok (.getfield 44, 3) := by decide +kernel
theorem dX8_choose_5 : decode cX8_choose 5 = .ok (.if_icmp .ge 8, 3) := by decide +kernel
theorem dX8_choose_8 : decode cX8_choose 8 = .ok (.iload_n 1, 1) := by decide +kernel
theorem dX8_choose_9 : decode cX8_choose 9 = .ok (.iconst 3, 1) := by decide +kernel
theorem dX8_choose_10 : decode cX8_choose 10 = .ok (.if_icmp .lt 8, 3) := by decide +kernel
theorem dX8_choose_13 : decode cX8_choose 13 = .ok (.aload_n 0, 1) := by decide +kernel
theorem dX8_choose_14 : decode cX8_choose 14 = .ok (.invokevirtual 107, 3) := by decide +kernel
theorem dX8_choose_17 : decode cX8_choose 17 = .ok (.return_, 1) := by decide +kernel
theorem dX8_choose_18 : decode cX8_choose 18 = .ok (.iload_n 2, 1) := by decide +kernel
theorem dX8_choose_19 : decode cX8_choose 19 = .ok (.istore_n 3, 1) := by decide +kernel
theorem dX8_choose_20 : decode cX8_choose 20 = .ok (.iload_n 3, 1) := by decide +kernel
theorem dX8_choose_21 : decode cX8_choose 21 = .ok (.aload_n 0, 1) := by decide +kernel
theorem dX8_choose_22 : decode cX8_choose 22 = .ok (.getfield 82, 3) := by decide +kernel
theorem dX8_choose_25 : decode cX8_choose 25 = .ok (.if_icmp .ge 63, 3) := by decide +kernel
theorem dX8_choose_28 : decode cX8_choose 28 = .ok (.aload_n 0, 1) := by decide +kernel
theorem dX8_choose_29 : decode cX8_choose 29 = .ok (.getfield 9, 3) := by decide +kernel
theorem dX8_choose_32 : decode cX8_choose 32 = .ok (.iload_n 3, 1) := by decide +kernel
theorem dX8_choose_33 : decode cX8_choose 33 = .ok (.invokestatic 40, 3) := by decide +kernel
theorem dX8_choose_36 : decode cX8_choose 36 = .ok (.istore 4, 2) := by decide +kernel
theorem dX8_choose_38 : decode cX8_choose 38 = .ok (.aload_n 0, 1) := by decide +kernel
theorem dX8_choose_39 : decode cX8_choose 39 = .ok (.getfield 18, 3) := by decide +kernel
theorem dX8_choose_42 : decode cX8_choose 42 = .ok (.iload_n 1, 1) := by decide +kernel
theorem dX8_choose_43 : decode cX8_choose 43 = .ok (.iload 4, 2) := by decide +kernel
theorem dX8_choose_45 : decode cX8_choose 45 = .ok (.invokestatic 103, 3) := by decide +kernel
theorem dX8_choose_48 : decode cX8_choose 48 = .ok (.aload_n 0, 1) := by decide +kernel
theorem dX8_choose_49 : decode cX8_choose 49 = .ok (.getfield 32, 3) := by decide +kernel
theorem dX8_choose_52 : decode cX8_choose 52 = .ok (.iload 4, 2) := by decide +kernel
theorem dX8_choose_54 : decode cX8_choose 54 = .ok (.aload_n 0, 1) := by decide +kernel
theorem dX8_choose_55 : decode cX8_choose 55 = .ok (.getfield 57, 3) := by decide +kernel
theorem dX8_choose_58 : decode cX8_choose 58 = .ok (.aload_n 0, 1) := by decide +kernel
theorem dX8_choose_59 : decode cX8_choose 59 = .ok (.getfield 51, 3) := by decide +kernel
theorem dX8_choose_62 : decode cX8_choose 62 = .ok (.invokevirtual 110, 3) := by decide +kernel
theorem dX8_choose_65 : decode cX8_choose 65 = .ok (.aload_n 0, 1) := by decide +kernel
theorem dX8_choose_66 : decode cX8_choose 66 = .ok (.iload_n 1, 1) := by decide +kernel
theorem dX8_choose_67 : decode cX8_choose 67 = .ok (.iconst 1, 1) := by decide +kernel
theorem dX8_choose_68 : decode cX8_choose 68 = .ok (.iadd, 1) := by decide +kernel
theorem dX8_choose_69 : decode cX8_choose 69 = .ok (.iload_n 3, 1) := by decide +kernel
theorem dX8_choose_70 : decode cX8_choose 70 = .ok (.iconst 1, 1) := by decide +kernel
theorem dX8_choose_71 : decode cX8_choose 71 = .ok (.iadd, 1) := by decide +kernel
theorem dX8_choose_72 : decode cX8_choose 72 = .ok (.invokevirtual 78, 3) := by decide +kernel
theorem dX8_choose_75 : decode cX8_choose 75 = .ok (.aload_n 0, 1) := by decide +kernel
theorem dX8_choose_76 : decode cX8_choose 76 = .ok (.getfield 32, 3) := by decide +kernel
theorem dX8_choose_79 : decode cX8_choose 79 = .ok (.invokevirtual 114, 3) := by decide +kernel
theorem dX8_choose_82 : decode cX8_choose 82 = .ok (.iinc 3 1, 3) := by decide +kernel
theorem dX8_choose_85 : decode cX8_choose 85 = .ok (.goto (-65), 3) := by decide +kernel
theorem dX8_choose_88 : decode cX8_choose 88 = .ok (.return_, 1) := by decide +kernel
theorem dX8_weigh_0 : decode cX8_weigh 0 = .ok (.aload_n 0, 1) := by decide +kernel
theorem dX8_weigh_1 : decode cX8_weigh 1 = .ok (.invokevirtual 117, 3) := by decide +kernel
theorem dX8_weigh_4 : decode cX8_weigh 4 = .ok (.ifCond .eq 4, 3) := by decide +kernel
theorem dX8_weigh_7 : decode cX8_weigh 7 = .ok (.return_, 1) := by decide +kernel
theorem dX8_weigh_8 : decode cX8_weigh 8 = .ok (.aload_n 0, 1) := by decide +kernel
theorem dX8_weigh_9 : decode cX8_weigh 9 = .ok (.getfield 32, 3) := by decide +kernel
theorem dX8_weigh_12 : decode cX8_weigh 12 = .ok (.aload_n 0, 1) := by decide +kernel
theorem dX8_weigh_13 : decode cX8_weigh 13 = .ok (.getfield 51, 3) := by decide +kernel
theorem dX8_weigh_16 : decode cX8_weigh 16 = .ok (.invokevirtual 121, 3) := by decide +kernel
theorem dX8_weigh_19 : decode cX8_weigh 19 = .ok (.istore_n 1, 1) := by decide +kernel
theorem dX8_weigh_20 : decode cX8_weigh 20 = .ok (.iload_n 1, 1) := by decide +kernel
theorem dX8_weigh_21 : decode cX8_weigh 21 = .ok (.aload_n 0, 1) := by decide +kernel
theorem dX8_weigh_22 : decode cX8_weigh 22 = .ok (.getfield 63, 3) := by decide +kernel
theorem dX8_weigh_25 : decode cX8_weigh 25 = .ok (.if_icmp .gt 4, 3) := by decide +kernel
theorem dX8_weigh_28 : decode cX8_weigh 28 = .ok (.return_, 1) := by decide +kernel
theorem dX8_weigh_29 : decode cX8_weigh 29 = .ok (.aload_n 0, 1) := by decide +kernel
theorem dX8_weigh_30 : decode cX8_weigh 30 = .ok (.iload_n 1, 1) := by decide +kernel
theorem dX8_weigh_31 : decode cX8_weigh 31 = .ok (.putfield 63, 3) := by decide +kernel
theorem dX8_weigh_34 : decode cX8_weigh 34 = .ok (.aload_n 0, 1) := by decide +kernel
theorem dX8_weigh_35 : decode cX8_weigh 35 = .ok (.aload_n 0, 1) := by decide +kernel
theorem dX8_weigh_36 : decode cX8_weigh 36 = .ok (.getfield 44, 3) := by decide +kernel
theorem dX8_weigh_39 : decode cX8_weigh 39 = .ok (.putfield 36, 3) := by decide +kernel
theorem dX8_weigh_42 : decode cX8_weigh 42 = .ok (.iconst 0, 1) := by decide +kernel
theorem dX8_weigh_43 : decode cX8_weigh 43 = .ok (.istore_n 2, 1) := by decide +kernel
theorem dX8_weigh_44 : decode cX8_weigh 44 = .ok (.iload_n 2, 1) := by decide +kernel
theorem dX8_weigh_45 : decode cX8_weigh 45 = .ok (.aload_n 0, 1) := by decide +kernel
theorem dX8_weigh_46 : decode cX8_weigh 46 = .ok (.getfield 44, 3) := by decide +kernel
theorem dX8_weigh_49 : decode cX8_weigh 49 = .ok (.if_icmp .ge 25, 3) := by decide +kernel
theorem dX8_weigh_52 : decode cX8_weigh 52 = .ok (.aload_n 0, 1) := by decide +kernel
theorem dX8_weigh_53 : decode cX8_weigh 53 = .ok (.getfield 21, 3) := by decide +kernel
theorem dX8_weigh_56 : decode cX8_weigh 56 = .ok (.iload_n 2, 1) := by decide +kernel
theorem dX8_weigh_57 : decode cX8_weigh 57 = .ok (.aload_n 0, 1) := by decide +kernel
theorem dX8_weigh_58 : decode cX8_weigh 58 = .ok (.getfield 18, 3) := by decide +kernel
theorem dX8_weigh_61 : decode cX8_weigh 61 = .ok (.iload_n 2, 1) := by decide +kernel
theorem dX8_weigh_62 : decode cX8_weigh 62 = .ok (.invokestatic 40, 3) := by decide +kernel
theorem dX8_weigh_65 : decode cX8_weigh 65 = .ok (.invokestatic 103, 3) := by decide +kernel
theorem dX8_weigh_68 : decode cX8_weigh 68 = .ok (.iinc 2 1, 3) := by decide +kernel
theorem dX8_weigh_71 : decode cX8_weigh 71 = .ok (.goto (-27), 3) := by decide +kernel
theorem dX8_weigh_74 : decode cX8_weigh 74 = .ok (.return_, 1) := by decide +kernel
theorem dX8_harmsTooMuch_0 : decode cX8_harmsTooMuch 0 = .ok (.iconst 0, 1) := by decide +kernel
theorem dX8_harmsTooMuch_1 : decode cX8_harmsTooMuch 1 = .ok (.istore_n 1, 1) := by decide +kernel
theorem dX8_harmsTooMuch_2 : decode cX8_harmsTooMuch 2 = .ok (.iload_n 1, 1) := by decide +kernel
theorem dX8_harmsTooMuch_3 : decode cX8_harmsTooMuch 3 = .ok (.aload_n 0, 1) := by decide +kernel
theorem dX8_harmsTooMuch_4 : decode cX8_harmsTooMuch 4 = .ok (.getfield 28, 3) := by decide +kernel
theorem dX8_harmsTooMuch_7 : decode cX8_harmsTooMuch 7 = .ok (.getfield 124, 3) := by decide +kernel
theorem dX8_harmsTooMuch_10 : decode cX8_harmsTooMuch 10 = .ok (.if_icmp .ge 64, 3) := by decide +kernel
theorem dX8_harmsTooMuch_13 : decode cX8_harmsTooMuch 13 = .ok (.aload_n 0, 1) := by decide +kernel
theorem dX8_harmsTooMuch_14 : decode cX8_harmsTooMuch 14 = .ok (.getfield 28, 3) := by decide +kernel
theorem dX8_harmsTooMuch_17 : decode cX8_harmsTooMuch 17 = .ok (.iload_n 1, 1) := by decide +kernel
theorem dX8_harmsTooMuch_18 : decode cX8_harmsTooMuch 18 = .ok (.invokevirtual 127, 3) := by decide +kernel
theorem dX8_harmsTooMuch_21 : decode cX8_harmsTooMuch 21 = .ok (.astore_n 2, 1) := by decide +kernel
theorem dX8_harmsTooMuch_22 : decode cX8_harmsTooMuch 22 = .ok (.aload_n 2, 1) := by decide +kernel
theorem dX8_harmsTooMuch_23 : decode cX8_harmsTooMuch 23 = .ok (.ifnull 45, 3) := by decide +kernel
theorem dX8_harmsTooMuch_26 : decode cX8_harmsTooMuch 26 = .ok (.aload_n 2, 1) := by decide +kernel
theorem dX8_harmsTooMuch_27 : decode cX8_harmsTooMuch 27 = .ok (.getfield 131, 3) := by decide +kernel
theorem dX8_harmsTooMuch_30 : decode cX8_harmsTooMuch 30 = .ok (.aload_n 0, 1) := by decide +kernel
theorem dX8_harmsTooMuch_31 : decode cX8_harmsTooMuch 31 = .ok (.getfield 51, 3) := by decide +kernel
theorem dX8_harmsTooMuch_34 : decode cX8_harmsTooMuch 34 = .ok (.if_icmp .ne 6, 3) := by decide +kernel
theorem dX8_harmsTooMuch_37 : decode cX8_harmsTooMuch 37 = .ok (.goto 31, 3) := by decide +kernel
theorem dX8_harmsTooMuch_40 : decode cX8_harmsTooMuch 40 = .ok (.aload_n 0, 1) := by decide +kernel
theorem dX8_harmsTooMuch_41 : decode cX8_harmsTooMuch 41 = .ok (.getfield 15, 3) := by decide +kernel
theorem dX8_harmsTooMuch_44 : decode cX8_harmsTooMuch 44 = .ok (.iload_n 1, 1) := by decide +kernel
theorem dX8_harmsTooMuch_45 : decode cX8_harmsTooMuch 45 = .ok (.invokestatic 40, 3) := by decide +kernel
theorem dX8_harmsTooMuch_48 : decode cX8_harmsTooMuch 48 = .ok (.aload_n 0, 1) := by decide +kernel
theorem dX8_harmsTooMuch_49 : decode cX8_harmsTooMuch 49 = .ok (.getfield 32, 3) := by decide +kernel
theorem dX8_harmsTooMuch_52 : decode cX8_harmsTooMuch 52 = .ok (.iload_n 1, 1) := by decide +kernel
theorem dX8_harmsTooMuch_53 : decode cX8_harmsTooMuch 53 = .ok (.invokevirtual 72, 3) := by decide +kernel
theorem dX8_harmsTooMuch_56 : decode cX8_harmsTooMuch 56 = .ok (.invokestatic 134, 3) := by decide +kernel
theorem dX8_harmsTooMuch_59 : decode cX8_harmsTooMuch 59 = .ok (.aload_n 0, 1) := by decide +kernel
theorem dX8_harmsTooMuch_60 : decode cX8_harmsTooMuch 60 = .ok (.getfield 60, 3) := by decide +kernel
theorem dX8_harmsTooMuch_63 : decode cX8_harmsTooMuch 63 = .ok (.if_icmp .le 5, 3) := by decide +kernel
theorem dX8_harmsTooMuch_66 : decode cX8_harmsTooMuch 66 = .ok (.iconst 1, 1) := by decide +kernel
theorem dX8_harmsTooMuch_67 : decode cX8_harmsTooMuch 67 = .ok (.ireturn, 1) := by decide +kernel
theorem dX8_harmsTooMuch_68 : decode cX8_harmsTooMuch 68 = .ok (.iinc 1 1, 3) := by decide +kernel
theorem dX8_harmsTooMuch_71 : decode cX8_harmsTooMuch 71 = .ok (.goto (-69), 3) := by decide +kernel
theorem dX8_harmsTooMuch_74 : decode cX8_harmsTooMuch 74 = .ok (.iconst 0, 1) := by decide +kernel
theorem dX8_harmsTooMuch_75 : decode cX8_harmsTooMuch 75 = .ok (.ireturn, 1) := by decide +kernel
theorem dX9_init_0 : decode cX9_init 0 = .ok (.aload_n 0, 1) := by decide +kernel
theorem dX9_init_1 : decode cX9_init 1 = .ok (.invokespecial 3, 3) := by decide +kernel
theorem dX9_init_4 : decode cX9_init 4 = .ok (.aload_n 0, 1) := by decide +kernel
theorem dX9_init_5 : decode cX9_init 5 = .ok (.bipush 120, 2) := by decide +kernel
theorem dX9_init_7 : decode cX9_init 7 = .ok (.newarray .int, 2) := by decide +kernel
theorem dX9_init_9 : decode cX9_init 9 = .ok (.putfield 9, 3) := by decide +kernel
theorem dX9_init_12 : decode cX9_init 12 = .ok (.aload_n 0, 1) := by decide +kernel
theorem dX9_init_13 : decode cX9_init 13 = .ok (.iload_n 1, 1) := by decide +kernel
theorem dX9_init_14 : decode cX9_init 14 = .ok (.putfield 15, 3) := by decide +kernel
theorem dX9_init_17 : decode cX9_init 17 = .ok (.aload_n 0, 1) := by decide +kernel
theorem dX9_init_18 : decode cX9_init 18 = .ok (.iload_n 2, 1) := by decide +kernel
theorem dX9_init_19 : decode cX9_init 19 = .ok (.putfield 19, 3) := by decide +kernel
theorem dX9_init_22 : decode cX9_init 22 = .ok (.aload_n 0, 1) := by decide +kernel
theorem dX9_init_23 : decode cX9_init 23 = .ok (.iload_n 3, 1) := by decide +kernel
theorem dX9_init_24 : decode cX9_init 24 = .ok (.putfield 22, 3) := by decide +kernel
theorem dX9_init_27 : decode cX9_init 27 = .ok (.aload_n 0, 1) := by decide +kernel
theorem dX9_init_28 : decode cX9_init 28 = .ok (.iload 5, 2) := by decide +kernel
theorem dX9_init_30 : decode cX9_init 30 = .ok (.putfield 25, 3) := by decide +kernel
theorem dX9_init_33 : decode cX9_init 33 = .ok (.iconst 0, 1) := by decide +kernel
theorem dX9_init_34 : decode cX9_init 34 = .ok (.istore 6, 2) := by decide +kernel
theorem dX9_init_36 : decode cX9_init 36 = .ok (.iload 6, 2) := by decide +kernel
theorem dX9_init_38 : decode cX9_init 38 = .ok (.iload 5, 2) := by decide +kernel
theorem dX9_init_40 : decode cX9_init 40 = .ok (.if_icmp .ge 25, 3) := by decide +kernel
theorem dX9_init_43 : decode cX9_init 43 = .ok (.aload_n 0, 1) := by decide +kernel
theorem dX9_init_44 : decode cX9_init 44 = .ok (.getfield 9, 3) := by decide +kernel
theorem dX9_init_47 : decode cX9_init 47 = .ok (.iload 6, 2) := by decide +kernel
theorem dX9_init_49 : decode cX9_init 49 = .ok (.aload 4, 2) := by decide +kernel
theorem dX9_init_51 : decode cX9_init 51 = .ok (.iload 6, 2) := by decide +kernel
theorem dX9_init_53 : decode cX9_init 53 = .ok (.invokestatic 28, 3) := by decide +kernel
theorem dX9_init_56 : decode cX9_init 56 = .ok (.invokestatic 32, 3) := by decide +kernel
theorem dX9_init_59 : decode cX9_init 59 = .ok (.iinc 6 1, 3) := by decide +kernel
theorem dX9_init_62 : decode cX9_init 62 = .ok (.goto (-26), 3) := by decide +kernel
theorem dX9_init_65 : decode cX9_init 65 = .ok (.return_, 1) := by decide +kernel
theorem dX10_init_0 : decode cX10_init 0 = .ok (.aload_n 0, 1) := by decide +kernel
theorem dX10_init_1 : decode cX10_init 1 = .ok (.invokespecial 3, 3) := by decide +kernel
theorem dX10_init_4 : decode cX10_init 4 = .ok (.aload_n 0, 1) := by decide +kernel
theorem dX10_init_5 : decode cX10_init 5 = .ok (.bipush 30, 2) := by decide +kernel
theorem dX10_init_7 : decode cX10_init 7 = .ok (.newarray .int, 2) := by decide +kernel
theorem dX10_init_9 : decode cX10_init 9 = .ok (.putfield 9, 3) := by decide +kernel
theorem dX10_init_12 : decode cX10_init 12 = .ok (.aload_n 0, 1) := by decide +kernel
theorem dX10_init_13 : decode cX10_init 13 = .ok (.bipush 30, 2) := by decide +kernel
theorem dX10_init_15 : decode cX10_init 15 = .ok (.bipush 30, 2) := by decide +kernel
theorem dX10_init_17 : decode cX10_init 17 = .ok (.multianewarray 15 2, 4) := by decide +kernel
theorem dX10_init_21 : decode cX10_init 21 = .ok (.putfield 17, 3) := by decide +kernel
theorem dX10_init_24 : decode cX10_init 24 = .ok (.aload_n 0, 1) := by decide +kernel
theorem dX10_init_25 : decode cX10_init 25 = .ok (.bipush 30, 2) := by decide +kernel
theorem dX10_init_27 : decode cX10_init 27 = .ok (.bipush 30, 2) := by decide +kernel
theorem dX10_init_29 : decode cX10_init 29 = .ok (.multianewarray 15 2, 4) := by decide +kernel
theorem dX10_init_33 : decode cX10_init 33 = .ok (.putfield 20, 3) := by decide +kernel
theorem dX10_init_36 : decode cX10_init 36 = .ok (.aload_n 0, 1) := by decide +kernel
theorem dX10_init_37 : decode cX10_init 37 = .ok (.bipush 10, 2) := by decide +kernel
theorem dX10_init_39 : decode cX10_init 39 = .ok (.newarray .int, 2) := by decide +kernel
theorem dX10_init_41 : decode cX10_init 41 = .ok (.putfield 23, 3) := by decide +kernel
theorem dX10_init_44 : decode cX10_init 44 = .ok (.iconst 0, 1) := by decide +kernel
theorem dX10_init_45 : decode cX10_init 45 = .ok (.istore_n 1, 1) := by decide +kernel
theorem dX10_init_46 : decode cX10_init 46 = .ok (.iload_n 1, 1) := by decide +kernel
theorem dX10_init_47 : decode cX10_init 47 = .ok (.aload_n 0, 1) := by decide +kernel
theorem dX10_init_48 : decode cX10_init 48 = .ok (.getfield 20, 3) := by decide +kernel
theorem dX10_init_51 : decode cX10_init 51 = .ok (.arraylength, 1) := by decide +kernel
theorem dX10_init_52 : decode cX10_init 52 = .ok (.if_icmp .ge 43, 3) := by decide +kernel
theorem dX10_init_55 : decode cX10_init 55 = .ok (.aload_n 0, 1) := by decide +kernel
theorem dX10_init_56 : decode cX10_init 56 = .ok (.getfield 20, 3) := by decide +kernel
theorem dX10_init_59 : decode cX10_init 59 = .ok (.iload_n 1, 1) := by decide +kernel
theorem dX10_init_60 : decode cX10_init 60 = .ok (.aaload, 1) := by decide +kernel
theorem dX10_init_61 : decode cX10_init 61 = .ok (.astore_n 2, 1) := by decide +kernel
theorem dX10_init_62 : decode cX10_init 62 = .ok (.iconst 0, 1) := by decide +kernel
theorem dX10_init_63 : decode cX10_init 63 = .ok (.istore_n 3, 1) := by decide +kernel
theorem dX10_init_64 : decode cX10_init 64 = .ok (.iload_n 3, 1) := by decide +kernel
theorem dX10_init_65 : decode cX10_init 65 = .ok (.aload_n 2, 1) := by decide +kernel
theorem dX10_init_66 : decode cX10_init 66 = .ok (.arraylength, 1) := by decide +kernel
theorem dX10_init_67 : decode cX10_init 67 = .ok (.if_icmp .ge 22, 3) := by decide +kernel
theorem dX10_init_70 : decode cX10_init 70 = .ok (.aload_n 2, 1) := by decide +kernel
theorem dX10_init_71 : decode cX10_init 71 = .ok (.iload_n 3, 1) := by decide +kernel
theorem dX10_init_72 : decode cX10_init 72 = .ok (.iload_n 1, 1) := by decide +kernel
theorem dX10_init_73 : decode cX10_init 73 = .ok (.iload_n 3, 1) := by decide +kernel
theorem dX10_init_74 : decode cX10_init 74 = .ok (.if_icmp .ne 7, 3) := by decide +kernel
theorem dX10_init_77 : decode cX10_init 77 = .ok (.iconst 0, 1) := by decide +kernel
theorem dX10_init_78 : decode cX10_init 78 = .ok (.goto 4, 3) := by decide +kernel
theorem dX10_init_81 : decode cX10_init 81 = .ok (.iconst (-1), 1) := by decide +kernel
theorem dX10_init_82 : decode cX10_init 82 = .ok (.iastore, 1) := by decide +kernel
theorem dX10_init_83 : decode cX10_init 83 = .ok (.iinc 3 1, 3) := by decide +kernel
theorem dX10_init_86 : decode cX10_init 86 = .ok (.goto (-22), 3) := by decide +kernel
theorem dX10_init_89 : decode cX10_init 89 = .ok (.iinc 1 1, 3) := by decide +kernel
theorem dX10_init_92 : decode cX10_init 92 = .ok (.goto (-46), 3) := by decide +kernel
theorem dX10_init_95 : decode cX10_init 95 = .ok (.return_, 1) := by decide +kernel
theorem dX10_hasPlace_0 : decode cX10_hasPlace 0 = .ok (.iload_n 1, 1) := by decide +kernel
theorem dX10_hasPlace_1 : decode cX10_hasPlace 1 = .ok (.ifCond .lt 15, 3) := by decide +kernel
theorem dX10_hasPlace_4 : decode cX10_hasPlace 4 = .ok (.iload_n 1, 1) := by decide +kernel
theorem dX10_hasPlace_5 : decode cX10_hasPlace 5 = .ok (.aload_n 0, 1) := by decide +kernel
theorem dX10_hasPlace_6 : decode cX10_hasPlace 6 = .ok (.getfield 26, 3) := by decide +kernel
theorem dX10_hasPlace_9 : decode cX10_hasPlace 9 = .ok (.if_icmp .ge 7, 3) := by decide +kernel
theorem dX10_hasPlace_12 : decode cX10_hasPlace 12 = .ok (.iconst 1, 1) := by decide +kernel
theorem dX10_hasPlace_13 : decode cX10_hasPlace 13 = .ok (.goto 4, 3) := by decide +kernel
theorem dX10_hasPlace_16 : decode cX10_hasPlace 16 = .ok (.iconst 0, 1) := by decide +kernel
theorem dX10_hasPlace_17 : decode cX10_hasPlace 17 = .ok (.ireturn, 1) := by decide +kernel
theorem dX10_addPlace_0 : decode cX10_addPlace 0 = .ok (.aload_n 0, 1) := by decide +kernel
theorem dX10_addPlace_1 : decode cX10_addPlace 1 = .ok (.getfield 26, 3) := by decide +kernel
theorem dX10_addPlace_4 : decode cX10_addPlace 4 = .ok (.bipush 30, 2) := by decide +kernel
theorem dX10_addPlace_6 : decode cX10_addPlace 6 = .ok (.if_icmp .lt 6, 3) := by decide +kernel
theorem dX10_addPlace_9 : decode cX10_addPlace 9 = .ok (.bipush (-2), 2) := by decide +kernel
theorem dX10_addPlace_11 : decode cX10_addPlace 11 = .ok (.ireturn, 1) := by decide +kernel
theorem dX10_addPlace_12 : decode cX10_addPlace 12 = .ok (.aload_n 0, 1) := by decide +kernel
theorem dX10_addPlace_13 : decode cX10_addPlace 13 = .ok (.getfield 9, 3) := by decide +kernel
theorem dX10_addPlace_16 : decode cX10_addPlace 16 = .ok (.aload_n 0, 1) := by decide +kernel
theorem dX10_addPlace_17 : decode cX10_addPlace 17 = .ok (.getfield 26, 3) := by decide +kernel
theorem dX10_addPlace_20 : decode cX10_addPlace 20 = .ok (.iload_n 1, 1) := by decide +kernel
theorem dX10_addPlace_21 : decode cX10_addPlace 21 = .ok (.invokestatic 30, 3) := by decide +kernel
theorem dX10_addPlace_24 : decode cX10_addPlace 24 = .ok (.aload_n 0, 1) := by decide +kernel
theorem dX10_addPlace_25 : decode cX10_addPlace 25 = .ok (.dup, 1) := by decide +kernel
theorem dX10_addPlace_26 : decode cX10_addPlace 26 = .ok (.getfield 26, 3) := by decide +kernel
theorem dX10_addPlace_29 : decode cX10_addPlace 29 = .ok (.iconst 1, 1) := by decide +kernel
theorem dX10_addPlace_30 : decode cX10_addPlace 30 = .ok (.iadd, 1) := by decide +kernel
theorem dX10_addPlace_31 : decode cX10_addPlace 31 = .ok (.putfield 26, 3) := by decide +kernel
theorem dX10_addPlace_34 : decode cX10_addPlace 34 = .ok (.aload_n 0, 1) := by decide +kernel
theorem dX10_addPlace_35 : decode cX10_addPlace 35 = .ok (.getfield 26, 3) := by decide +kernel
theorem dX10_addPlace_38 : decode cX10_addPlace 38 = .ok (.iconst 1, 1) := by decide +kernel
theorem dX10_addPlace_39 : decode cX10_addPlace 39 = .ok (.isub, 1) := by decide +kernel
theorem dX10_addPlace_40 : decode cX10_addPlace 40 = .ok (.ireturn, 1) := by decide +kernel
theorem dX10_doorsOf_0 : decode cX10_doorsOf 0 = .ok (.aload_n 0, 1) := by decide +kernel
theorem dX10_doorsOf_1 : decode cX10_doorsOf 1 = .ok (.getfield 9, 3) := by decide +kernel
theorem dX10_doorsOf_4 : decode cX10_doorsOf 4 = .ok (.iload_n 1, 1) := by decide +kernel
theorem dX10_doorsOf_5 : decode cX10_doorsOf 5 = .ok (.invokestatic 34, 3) := by decide +kernel
theorem dX10_doorsOf_8 : decode cX10_doorsOf 8 = .ok (.ireturn, 1) := by decide +kernel
theorem dX10_wayBetween_0 : decode cX10_wayBetween 0 = .ok (.aload_n 0, 1) := by decide +kernel
theorem dX10_wayBetween_1 : decode cX10_wayBetween 1 = .ok (.getfield 20, 3) := by decide +kernel
theorem dX10_wayBetween_4 : decode cX10_wayBetween 4 = .ok (.iload_n 1, 1) := by decide +kernel
theorem dX10_wayBetween_5 : decode cX10_wayBetween 5 = .ok (.iload_n 2, 1) := by decide +kernel
theorem dX10_wayBetween_6 : decode cX10_wayBetween 6 = .ok (.invokestatic 38, 3) := by decide +kernel
theorem dX10_wayBetween_9 : decode cX10_wayBetween 9 = .ok (.ireturn, 1) := by decide +kernel
theorem dX10_addStreet_0 : decode cX10_addStreet 0 = .ok (.aload_n 0, 1) := by decide +kernel
theorem dX10_addStreet_1 : decode cX10_addStreet 1 = .ok (.getfield 17, 3) := by decide +kernel
theorem dX10_addStreet_4 : decode cX10_addStreet 4 = .ok (.iload_n 1, 1) := by decide +kernel
theorem dX10_addStreet_5 : decode cX10_addStreet 5 = .ok (.iload_n 2, 1) := by decide +kernel
theorem dX10_addStreet_6 : decode cX10_addStreet 6 = .ok (.invokestatic 38, 3) := by decide +kernel
theorem dX10_addStreet_9 : decode cX10_addStreet 9 = .ok (.istore 4, 2) := by decide +kernel
theorem dX10_addStreet_11 : decode cX10_addStreet 11 = .ok (.iload 4, 2) := by decide +kernel
theorem dX10_addStreet_13 : decode cX10_addStreet 13 = .ok (.ifCond .le 12, 3) := by decide +kernel
theorem dX10_addStreet_16 : decode cX10_addStreet 16 = .ok (.iload 4, 2) := by decide +kernel
theorem dX10_addStreet_18 : decode cX10_addStreet 18 = .ok (.iload_n 3, 1) := by decide +kernel
theorem dX10_addStreet_19 : decode cX10_addStreet 19 = .ok (.if_icmp .gt 6, 3) := by decide +kernel
theorem dX10_addStreet_22 : decode cX10_addStreet 22 = .ok (.iload 4, 2) := by decide +kernel
theorem dX10_addStreet_24 : decode cX10_addStreet 24 = .ok (.ireturn, 1) := by decide +kernel
theorem dX10_addStreet_25 : decode cX10_addStreet 25 = .ok (.aload_n 0, 1) := by decide +kernel
theorem dX10_addStreet_26 : decode cX10_addStreet 26 = .ok (.getfield 17, 3) := by decide +kernel
theorem dX10_addStreet_29 : decode cX10_addStreet 29 = .ok (.iload_n 1, 1) := by decide +kernel
theorem dX10_addStreet_30 : decode cX10_addStreet 30 = .ok (.iload_n 2, 1) := by decide +kernel
theorem dX10_addStreet_31 : decode cX10_addStreet 31 = .ok (.iload_n 3, 1) := by decide +kernel
theorem dX10_addStreet_32 : decode cX10_addStreet 32 = .ok (.invokestatic 42, 3) := by decide +kernel
theorem dX10_addStreet_35 : decode cX10_addStreet 35 = .ok (.aload_n 0, 1) := by decide +kernel
theorem dX10_addStreet_36 : decode cX10_addStreet 36 = .ok (.getfield 17, 3) := by decide +kernel
theorem dX10_addStreet_39 : decode cX10_addStreet 39 = .ok (.iload_n 2, 1) := by decide +kernel
theorem dX10_addStreet_40 : decode cX10_addStreet 40 = .ok (.iload_n 1, 1) := by decide +kernel
theorem dX10_addStreet_41 : decode cX10_addStreet 41 = .ok (.iload_n 3, 1) := by decide +kernel
theorem dX10_addStreet_42 : decode cX10_addStreet 42 = .ok (.invokestatic 42, 3) := by decide +kernel
theorem dX10_addStreet_45 : decode cX10_addStreet 45 = .ok (.iconst 0, 1) := by decide +kernel
theorem dX10_addStreet_46 : decode cX10_addStreet 46 = .ok (.istore 5, 2) := by decide +kernel
theorem dX10_addStreet_48 : decode cX10_addStreet 48 = .ok (.iload 5, 2) := by decide +kernel
theorem dX10_addStreet_50 : decode cX10_addStreet 50 = .ok (.aload_n 0, 1) := by decide +kernel
theorem dX10_addStreet_51 : decode cX10_addStreet 51 = .ok (.getfield 26, 3) := by decide +kernel
theorem dX10_addStreet_54 : decode cX10_addStreet 54 = .ok (.if_icmp .ge 79, 3) := by decide +kernel
theorem dX10_addStreet_57 : decode cX10_addStreet 57 = .ok (.iconst 0, 1) := by decide +kernel
theorem dX10_addStreet_58 : decode cX10_addStreet 58 = .ok (.istore 6, 2) := by decide +kernel
theorem dX10_addStreet_60 : decode cX10_addStreet 60 = .ok (.iload 6, 2) := by decide +kernel
theorem dX10_addStreet_62 : decode cX10_addStreet 62 = .ok (.aload_n 0, 1) := by decide +kernel
theorem dX10_addStreet_63 : decode cX10_addStreet 63 = .ok (.getfield 26, 3) := by decide +kernel
theorem dX10_addStreet_66 : decode cX10_addStreet 66 = .ok (.if_icmp .ge 61, 3) := by decide +kernel
theorem dX10_addStreet_69 : decode cX10_addStreet 69 = .ok (.aload_n 0, 1) := by decide +kernel
theorem dX10_addStreet_70 : decode cX10_addStreet 70 = .ok (.iload 5, 2) := by decide +kernel
theorem dX10_addStreet_72 : decode cX10_addStreet 72 = .ok (.iload 6, 2) := by decide +kernel
theorem dX10_addStreet_74 : decode cX10_addStreet 74 = .ok (.aload_n 0, 1) := by decide +kernel
theorem dX10_addStreet_75 : decode cX10_addStreet 75 = .ok (.iload 5, 2) := by decide +kernel
theorem dX10_addStreet_77 : decode cX10_addStreet 77 = .ok (.iload_n 1, 1) := by decide +kernel
theorem dX10_addStreet_78 : decode cX10_addStreet 78 = .ok (.invokevirtual 46, 3) := by decide +kernel
theorem dX10_addStreet_81 : decode cX10_addStreet 81 = .ok (.iload_n 3, 1) := by decide +kernel
theorem dX10_addStreet_82 : decode cX10_addStreet 82 = .ok (.aload_n 0, 1) := by decide +kernel
theorem dX10_addStreet_83 : decode cX10_addStreet 83 = .ok (.iload_n 2, 1) := by decide +kernel
theorem dX10_addStreet_84 : decode cX10_addStreet 84 = .ok (.iload 6, 2) := by decide +kernel
theorem dX10_addStreet_86 : decode cX10_addStreet 86 = .ok (.invokevirtual 46, 3) := by decide +kernel
theorem dX10_addStreet_89 : decode cX10_addStreet 89 = .ok (.invokestatic 50, 3) := by decide +kernel
theorem dX10_addStreet_92 : decode cX10_addStreet 92 = .ok (.invokevirtual 54, 3) := by decide +kernel
theorem dX10_addStreet_95 : decode cX10_addStreet 95 = .ok (.aload_n 0, 1) := by decide +kernel
theorem dX10_addStreet_96 : decode cX10_addStreet 96 = .ok (.iload 5, 2) := by decide +kernel
theorem dX10_addStreet_98 : decode cX10_addStreet 98 = .ok (.iload 6, 2) := by decide +kernel
theorem dX10_addStreet_100 : decode cX10_addStreet 100 = .ok (.aload_n 0, 1) := by decide +kernel
theorem dX10_addStreet_101 : decode cX10_addStreet 101 = .ok (.iload 5, 2) := by decide +kernel
theorem dX10_addStreet_103 : decode cX10_addStreet 103 = .ok (.iload_n 2, 1) := by decide +kernel
theorem dX10_addStreet_104 : decode cX10_addStreet 104 = .ok (.invokevirtual 46, 3) := by decide +kernel
theorem dX10_addStreet_107 : decode cX10_addStreet 107 = .ok (.iload_n 3, 1) := by decide +kernel
theorem dX10_addStreet_108 : decode cX10_addStreet 108 = .ok (.aload_n 0, 1) := by decide +kernel
theorem dX10_addStreet_109 : decode cX10_addStreet 109 = .ok (.iload_n 1, 1) := by decide +kernel
theorem dX10_addStreet_110 : decode cX10_addStreet 110 = .ok (.iload 6, 2) := by decide +kernel
theorem dX10_addStreet_112 : decode cX10_addStreet 112 = .ok (.invokevirtual 46, 3) := by decide +kernel
theorem dX10_addStreet_115 : decode cX10_addStreet 115 = .ok (.invokestatic 50, 3) := by decide +kernel
theorem dX10_addStreet_118 : decode cX10_addStreet 118 = .ok (.invokevirtual 54, 3) := by decide +kernel
theorem dX10_addStreet_121 : decode cX10_addStreet 121 = .ok (.iinc 6 1, 3) := by decide +kernel
theorem dX10_addStreet_124 : decode cX10_addStreet 124 = .ok (.goto (-64), 3) := by decide +kernel
theorem dX10_addStreet_127 : decode cX10_addStreet 127 = .ok (.iinc 5 1, 3) := by decide +kernel
theorem dX10_addStreet_130 : decode cX10_addStreet 130 = .ok (.goto (-82), 3) := by decide +kernel
theorem dX10_addStreet_133 : decode cX10_addStreet 133 = .ok (.iload_n 3, 1) := by decide +kernel
theorem dX10_addStreet_134 : decode cX10_addStreet 134 = .ok (.ireturn, 1) := by decide +kernel
theorem dX10_offerWay_0 : decode cX10_offerWay 0 = .ok (.aload_n 0, 1) := by decide +kernel
theorem dX10_offerWay_1 : decode cX10_offerWay 1 = .ok (.iload_n 1, 1) := by decide +kernel
theorem dX10_offerWay_2 : decode cX10_offerWay 2 = .ok (.iload_n 2, 1) := by decide +kernel
theorem dX10_offerWay_3 : decode cX10_offerWay 3 = .ok (.invokevirtual 46, 3) := by decide +kernel
theorem dX10_offerWay_6 : decode cX10_offerWay 6 = .ok (.istore 4, 2) := by decide +kernel
theorem dX10_offerWay_8 : decode cX10_offerWay 8 = .ok (.iload_n 3, 1) := by decide +kernel
theorem dX10_offerWay_9 : decode cX10_offerWay 9 = .ok (.iconst (-1), 1) := by decide +kernel
theorem dX10_offerWay_10 : decode cX10_offerWay 10 = .ok (.if_icmp .eq 25, 3) := by decide +kernel
theorem dX10_offerWay_13 : decode cX10_offerWay 13 = .ok (.iload 4, 2) := by decide +kernel
theorem dX10_offerWay_15 : decode cX10_offerWay 15 = .ok (.iconst (-1), 1) := by decide +kernel
theorem dX10_offerWay_16 : decode cX10_offerWay 16 = .ok (.if_icmp .eq 9, 3) := by decide +kernel
theorem dX10_offerWay_19 : decode cX10_offerWay 19 = .ok (.iload_n 3, 1) := by decide +kernel
theorem dX10_offerWay_20 : decode cX10_offerWay 20 = .ok (.iload 4, 2) := by decide +kernel
theorem dX10_offerWay_22 : decode cX10_offerWay 22 = .ok (.if_icmp .ge 13, 3) := by decide +kernel
theorem dX10_offerWay_25 : decode cX10_offerWay 25 = .ok (.aload_n 0, 1) := by decide +kernel
theorem dX10_offerWay_26 : decode cX10_offerWay 26 = .ok (.getfield 20, 3) := by decide +kernel
theorem dX10_offerWay_29 : decode cX10_offerWay 29 = .ok (.iload_n 1, 1) := by decide +kernel
theorem dX10_offerWay_30 : decode cX10_offerWay 30 = .ok (.iload_n 2, 1) := by decide +kernel
theorem dX10_offerWay_31 : decode cX10_offerWay 31 = .ok (.iload_n 3, 1) := by decide +kernel
theorem dX10_offerWay_32 : decode cX10_offerWay 32 = .ok (.invokestatic 42, 3) := by decide +kernel
theorem dX10_offerWay_35 : decode cX10_offerWay 35 = .ok (.return_, 1) := by decide +kernel
theorem dX10_sumOf_0 : decode cX10_sumOf 0 = .ok (.iload_n 0, 1) := by decide +kernel
theorem dX10_sumOf_1 : decode cX10_sumOf 1 = .ok (.iconst (-1), 1) := by decide +kernel
theorem dX10_sumOf_2 : decode cX10_sumOf 2 = .ok (.if_icmp .eq 8, 3) := by decide +kernel
theorem dX10_sumOf_5 : decode cX10_sumOf 5 = .ok (.iload_n 2, 1) := by decide +kernel
theorem dX10_sumOf_6 : decode cX10_sumOf 6 = .ok (.iconst (-1), 1) := by decide +kernel
theorem dX10_sumOf_7 : decode cX10_sumOf 7 = .ok (.if_icmp .ne 7, 3) := by decide +kernel
theorem dX10_sumOf_10 : decode cX10_sumOf 10 = .ok (.iconst (-1), 1) := by decide +kernel
theorem dX10_sumOf_11 : decode cX10_sumOf 11 = .ok (.goto 8, 3) := by decide +kernel
theorem dX10_sumOf_14 : decode cX10_sumOf 14 = .ok (.iload_n 0, 1) := by decide +kernel
theorem dX10_sumOf_15 : decode cX10_sumOf 15 = .ok (.iload_n 1, 1) := by decide +kernel
theorem dX10_sumOf_16 : decode cX10_sumOf 16 = .ok (.iadd, 1) := by decide +kernel
theorem dX10_sumOf_17 : decode cX10_sumOf 17 = .ok (.iload_n 2, 1) := by decide +kernel
theorem dX10_sumOf_18 : decode cX10_sumOf 18 = .ok (.iadd, 1) := by decide +kernel
theorem dX10_sumOf_19 : decode cX10_sumOf 19 = .ok (.ireturn, 1) := by decide +kernel
theorem dX10_isSite_0 : decode cX10_isSite 0 = .ok (.iconst 0, 1) := by decide +kernel
theorem dX10_isSite_1 : decode cX10_isSite 1 = .ok (.istore_n 2, 1) := by decide +kernel
theorem dX10_isSite_2 : decode cX10_isSite 2 = .ok (.iload_n 2, 1) := by decide +kernel
theorem dX10_isSite_3 : decode cX10_isSite 3 = .ok (.aload_n 0, 1) := by decide +kernel
theorem dX10_isSite_4 : decode cX10_isSite 4 = .ok (.getfield 58, 3) := by decide +kernel
theorem dX10_isSite_7 : decode cX10_isSite 7 = .ok (.if_icmp .ge 23, 3) := by decide +kernel
theorem dX10_isSite_10 : decode cX10_isSite 10 = .ok (.aload_n 0, 1) := by decide +kernel
theorem dX10_isSite_11 : decode cX10_isSite 11 = .ok (.getfield 23, 3) := by decide +kernel
theorem dX10_isSite_14 : decode cX10_isSite 14 = .ok (.iload_n 2, 1) := by decide +kernel
theorem dX10_isSite_15 : decode cX10_isSite 15 = .ok (.invokestatic 34, 3) := by decide +kernel
theorem dX10_isSite_18 : decode cX10_isSite 18 = .ok (.iload_n 1, 1) := by decide +kernel
theorem dX10_isSite_19 : decode cX10_isSite 19 = .ok (.if_icmp .ne 5, 3) := by decide +kernel
theorem dX10_isSite_22 : decode cX10_isSite 22 = .ok (.iconst 1, 1) := by decide +kernel
theorem dX10_isSite_23 : decode cX10_isSite 23 = .ok (.ireturn, 1) := by decide +kernel
theorem dX10_isSite_24 : decode cX10_isSite 24 = .ok (.iinc 2 1, 3) := by decide +kernel
theorem dX10_isSite_27 : decode cX10_isSite 27 = .ok (.goto (-25), 3) := by decide +kernel
theorem dX10_isSite_30 : decode cX10_isSite 30 = .ok (.iconst 0, 1) := by decide +kernel
theorem dX10_isSite_31 : decode cX10_isSite 31 = .ok (.ireturn, 1) := by decide +kernel
theorem dX10_addSite_0 : decode cX10_addSite 0 = .ok (.aload_n 0, 1) := by decide +kernel
theorem dX10_addSite_1 : decode cX10_addSite 1 = .ok (.getfield 58, 3) := by decide +kernel
theorem dX10_addSite_4 : decode cX10_addSite 4 = .ok (.bipush 10, 2) := by decide +kernel
theorem dX10_addSite_6 : decode cX10_addSite 6 = .ok (.if_icmp .lt 6, 3) := by decide +kernel
theorem dX10_addSite_9 : decode cX10_addSite 9 = .ok (.bipush (-2), 2) := by decide +kernel
theorem dX10_addSite_11 : decode cX10_addSite 11 = .ok (.ireturn, 1) := by decide +kernel
theorem dX10_addSite_12 : decode cX10_addSite 12 = .ok (.aload_n 0, 1) := by decide +kernel
theorem dX10_addSite_13 : decode cX10_addSite 13 = .ok (.getfield 23, 3) := by decide +kernel
theorem dX10_addSite_16 : decode cX10_addSite 16 = .ok (.aload_n 0, 1) := by decide +kernel
theorem dX10_addSite_17 : decode cX10_addSite 17 = .ok (.getfield 58, 3) := by decide +kernel
theorem dX10_addSite_20 : decode cX10_addSite 20 = .ok (.iload_n 1, 1) := by decide +kernel
theorem dX10_addSite_21 : decode cX10_addSite 21 = .ok (.invokestatic 30, 3) := by decide +kernel
theorem dX10_addSite_24 : decode cX10_addSite 24 = .ok (.aload_n 0, 1) := by decide +kernel
theorem dX10_addSite_25 : decode cX10_addSite 25 = .ok (.dup, 1) := by decide +kernel
theorem dX10_addSite_26 : decode cX10_addSite 26 = .ok (.getfield 58, 3) := by decide +kernel
theorem dX10_addSite_29 : decode cX10_addSite 29 = .ok (.iconst 1, 1) := by decide +kernel
theorem dX10_addSite_30 : decode cX10_addSite 30 = .ok (.iadd, 1) := by decide +kernel
theorem dX10_addSite_31 : decode cX10_addSite 31 = .ok (.putfield 58, 3) := by decide +kernel
theorem dX10_addSite_34 : decode cX10_addSite 34 = .ok (.aload_n 0, 1) := by decide +kernel
theorem dX10_addSite_35 : decode cX10_addSite 35 = .ok (.getfield 58, 3) := by decide +kernel
theorem dX10_addSite_38 : decode cX10_addSite 38 = .ok (.ireturn, 1) := by decide +kernel
theorem dX10_siteAt_0 : decode cX10_siteAt 0 = .ok (.aload_n 0, 1) := by decide +kernel
theorem dX10_siteAt_1 : decode cX10_siteAt 1 = .ok (.getfield 23, 3) := by decide +kernel
theorem dX10_siteAt_4 : decode cX10_siteAt 4 = .ok (.iload_n 1, 1) := by decide +kernel
theorem dX10_siteAt_5 : decode cX10_siteAt 5 = .ok (.invokestatic 34, 3) := by decide +kernel
theorem dX10_siteAt_8 : decode cX10_siteAt 8 = .ok (.ireturn, 1) := by decide +kernel
theorem dX10_cell_0 : decode cX10_cell 0 = .ok (.iload_n 1, 1) := by decide +kernel
theorem dX10_cell_1 : decode cX10_cell 1 = .ok (.ifCond .lt 9, 3) := by decide +kernel
theorem dX10_cell_4 : decode cX10_cell 4 = .ok (.iload_n 1, 1) := by decide +kernel
theorem dX10_cell_5 : decode cX10_cell 5 = .ok (.aload_n 0, 1) := by decide +kernel
theorem dX10_cell_6 : decode cX10_cell 6 = .ok (.arraylength, 1) := by decide +kernel
theorem dX10_cell_7 : decode cX10_cell 7 = .ok (.if_icmp .lt 5, 3) := by decide +kernel
theorem dX10_cell_10 : decode cX10_cell 10 = .ok (.iconst (-1), 1) := by decide +kernel
theorem dX10_cell_11 : decode cX10_cell 11 = .ok (.ireturn, 1) := by decide +kernel
theorem dX10_cell_12 : decode cX10_cell 12 = .ok (.aload_n 0, 1) := by decide +kernel
theorem dX10_cell_13 : decode cX10_cell 13 = .ok (.iload_n 1, 1) := by decide +kernel
theorem dX10_cell_14 : decode cX10_cell 14 = .ok (.aaload, 1) := by decide +kernel
theorem dX10_cell_15 : decode cX10_cell 15 = .ok (.astore_n 3, 1) := by decide +kernel
theorem dX10_cell_16 : decode cX10_cell 16 = .ok (.iload_n 2, 1) := by decide +kernel
theorem dX10_cell_17 : decode cX10_cell 17 = .ok (.ifCond .lt 15, 3) := by decide +kernel
theorem dX10_cell_20 : decode cX10_cell 20 = .ok (.iload_n 2, 1) := by decide +kernel
theorem dX10_cell_21 : decode cX10_cell 21 = .ok (.aload_n 3, 1) := by decide +kernel
theorem dX10_cell_22 : decode cX10_cell 22 = .ok (.arraylength, 1) := by decide +kernel
theorem dX10_cell_23 : decode cX10_cell 23 = .ok (.if_icmp .ge 9, 3) := by decide +kernel
theorem dX10_cell_26 : decode cX10_cell 26 = .ok (.aload_n 3, 1) := by decide +kernel
theorem dX10_cell_27 : decode cX10_cell 27 = .ok (.iload_n 2, 1) := by decide +kernel
theorem dX10_cell_28 : decode cX10_cell 28 = .ok (.iaload, 1) := by decide +kernel
theorem dX10_cell_29 : decode cX10_cell 29 = .ok (.goto 4, 3) := by decide +kernel
theorem dX10_cell_32 : decode cX10_cell 32 = .ok (.iconst (-1), 1) := by decide +kernel
theorem dX10_cell_33 : decode cX10_cell 33 = .ok (.ireturn, 1) := by decide +kernel
theorem dX10_setCell_0 : decode cX10_setCell 0 = .ok (.iload_n 1, 1) := by decide +kernel
theorem dX10_setCell_1 : decode cX10_setCell 1 = .ok (.ifCond .lt 17, 3) := by decide +kernel
theorem dX10_setCell_4 : decode cX10_setCell 4 = .ok (.iload_n 1, 1) := by decide +kernel
theorem dX10_setCell_5 : decode cX10_setCell 5 = .ok (.aload_n 0, 1) := by decide +kernel
theorem dX10_setCell_6 : decode cX10_setCell 6 = .ok (.arraylength, 1) := by decide +kernel
theorem dX10_setCell_7 : decode cX10_setCell 7 = .ok (.if_icmp .ge 11, 3) := by decide +kernel
theorem dX10_setCell_10 : decode cX10_setCell 10 = .ok (.aload_n 0, 1) := by decide +kernel
theorem dX10_setCell_11 : decode cX10_setCell 11 = .ok (.iload_n 1, 1) := by decide +kernel
theorem dX10_setCell_12 : decode cX10_setCell 12 = .ok (.aaload, 1) := by decide +kernel
theorem dX10_setCell_13 : decode cX10_setCell 13 = .ok (.iload_n 2, 1) := by decide +kernel
theorem dX10_setCell_14 : decode cX10_setCell 14 = .ok (.iload_n 3, 1) := by decide +kernel
theorem dX10_setCell_15 : decode cX10_setCell 15 = .ok (.invokestatic 30, 3) := by decide +kernel
theorem dX10_setCell_18 : decode cX10_setCell 18 = .ok (.return_, 1) := by decide +kernel
theorem dX11_init_0 : decode cX11_init 0 = .ok (.aload_n 0, 1) := by decide +kernel
theorem dX11_init_1 : decode cX11_init 1 = .ok (.invokespecial 3, 3) := by decide +kernel
theorem dX11_init_4 : decode cX11_init 4 = .ok (.aload_n 0, 1) := by decide +kernel
theorem dX11_init_5 : decode cX11_init 5 = .ok (.iconst 4, 1) := by decide +kernel
theorem dX11_init_6 : decode cX11_init 6 = .ok (.putfield 9, 3) := by decide +kernel
theorem dX11_init_9 : decode cX11_init 9 = .ok (.aload_n 0, 1) := by decide +kernel
theorem dX11_init_10 : decode cX11_init 10 = .ok (.new 13, 3) := by decide +kernel
theorem dX11_init_13 : decode cX11_init 13 = .ok (.dup, 1) := by decide +kernel
theorem dX11_init_14 : decode cX11_init 14 = .ok (.invokespecial 15, 3) := by decide +kernel
theorem dX11_init_17 : decode cX11_init 17 = .ok (.putfield 16, 3) := by decide +kernel
theorem dX11_init_20 : decode cX11_init 20 = .ok (.aload_n 0, 1) := by decide +kernel
theorem dX11_init_21 : decode cX11_init 21 = .ok (.new 20, 3) := by decide +kernel
theorem dX11_init_24 : decode cX11_init 24 = .ok (.dup, 1) := by decide +kernel
theorem dX11_init_25 : decode cX11_init 25 = .ok (.aload_n 0, 1) := by decide +kernel
theorem dX11_init_26 : decode cX11_init 26 = .ok (.getfield 16, 3) := by decide +kernel
theorem dX11_init_29 : decode cX11_init 29 = .ok (.invokespecial 22, 3) := by decide +kernel
theorem dX11_init_32 : decode cX11_init 32 = .ok (.putfield 25, 3) := by decide +kernel
theorem dX11_init_35 : decode cX11_init 35 = .ok (.aload_n 0, 1) := by decide +kernel
theorem dX11_init_36 : decode cX11_init 36 = .ok (.new 29, 3) := by decide +kernel
theorem dX11_init_39 : decode cX11_init 39 = .ok (.dup, 1) := by decide +kernel
theorem dX11_init_40 : decode cX11_init 40 = .ok (.aload_n 0, 1) := by decide +kernel
theorem dX11_init_41 : decode cX11_init 41 = .ok (.getfield 16, 3) := by decide +kernel
theorem dX11_init_44 : decode cX11_init 44 = .ok (.invokespecial 31, 3) := by decide +kernel
theorem dX11_init_47 : decode cX11_init 47 = .ok (.putfield 32, 3) := by decide +kernel
theorem dX11_init_50 : decode cX11_init 50 = .ok (.aload_n 0, 1) := by decide +kernel
theorem dX11_init_51 : decode cX11_init 51 = .ok (.new 36, 3) := by decide +kernel
theorem dX11_init_54 : decode cX11_init 54 = .ok (.dup, 1) := by decide +kernel
theorem dX11_init_55 : decode cX11_init 55 = .ok (.aload_n 0, 1) := by decide +kernel
theorem dX11_init_56 : decode cX11_init 56 = .ok (.getfield 16, 3) := by decide +kernel
theorem dX11_init_59 : decode cX11_init 59 = .ok (.aload_n 0, 1) := by decide +kernel
theorem dX11_init_60 : decode cX11_init 60 = .ok (.getfield 25, 3) := by decide +kernel
theorem dX11_init_63 : decode cX11_init 63 = .ok (.aload_n 0, 1) := by decide +kernel
theorem dX11_init_64 : decode cX11_init 64 = .ok (.getfield 32, 3) := by decide +kernel
theorem dX11_init_67 : decode cX11_init 67 = .ok (.invokespecial 38, 3) := by decide +kernel
theorem dX11_init_70 : decode cX11_init 70 = .ok (.putfield 41, 3) := by decide +kernel
theorem dX11_init_73 : decode cX11_init 73 = .ok (.aload_n 0, 1) := by decide +kernel
theorem dX11_init_74 : decode cX11_init 74 = .ok (.new 45, 3) := by decide +kernel
theorem dX11_init_77 : decode cX11_init 77 = .ok (.dup, 1) := by decide +kernel
theorem dX11_init_78 : decode cX11_init 78 = .ok (.aload_n 0, 1) := by decide +kernel
theorem dX11_init_79 : decode cX11_init 79 = .ok (.getfield 25, 3) := by decide +kernel
theorem dX11_init_82 : decode cX11_init 82 = .ok (.invokespecial 47, 3) := by decide +kernel
theorem dX11_init_85 : decode cX11_init 85 = .ok (.putfield 50, 3) := by decide +kernel
theorem dX11_init_88 : decode cX11_init 88 = .ok (.aload_n 0, 1) := by decide +kernel
theorem dX11_init_89 : decode cX11_init 89 = .ok (.new 54, 3) := by decide +kernel
theorem dX11_init_92 : decode cX11_init 92 = .ok (.dup, 1) := by decide +kernel
theorem dX11_init_93 : decode cX11_init 93 = .ok (.aload_n 0, 1) := by decide +kernel
theorem dX11_init_94 : decode cX11_init 94 = .ok (.getfield 25, 3) := by decide +kernel
theorem dX11_init_97 : decode cX11_init 97 = .ok (.invokespecial 56, 3) := by decide +kernel
theorem dX11_init_100 : decode cX11_init 100 = .ok (.putfield 57, 3) := by decide +kernel
theorem dX11_init_103 : decode cX11_init 103 = .ok (.aload_n 0, 1) := by decide +kernel
theorem dX11_init_104 : decode cX11_init 104 = .ok (.new 61, 3) := by decide +kernel
theorem dX11_init_107 : decode cX11_init 107 = .ok (.dup, 1) := by decide +kernel
theorem dX11_init_108 : decode cX11_init 108 = .ok (.invokespecial 63, 3) := by decide +kernel
theorem dX11_init_111 : decode cX11_init 111 = .ok (.putfield 64, 3) := by decide +kernel
theorem dX11_init_114 : decode cX11_init 114 = .ok (.return_, 1) := by decide +kernel
theorem dX11_place_0 : decode cX11_place 0 = .ok (.iload_n 1, 1) := by decide +kernel
theorem dX11_place_1 : decode cX11_place 1 = .ok (.iconst 0, 1) := by decide +kernel
theorem dX11_place_2 : decode cX11_place 2 = .ok (.sipush 999, 3) := by decide +kernel
theorem dX11_place_5 : decode cX11_place 5 = .ok (.invokestatic 68, 3) := by decide +kernel
theorem dX11_place_8 : decode cX11_place 8 = .ok (.ifCond .ne 5, 3) := by decide +kernel
theorem dX11_place_11 : decode cX11_place 11 = .ok (.iconst (-1), 1) := by decide +kernel
theorem dX11_place_12 : decode cX11_place 12 = .ok (.ireturn, 1) := by decide +kernel
theorem dX11_place_13 : decode cX11_place 13 = .ok (.aload_n 0, 1) := by decide +kernel
theorem dX11_place_14 : decode cX11_place 14 = .ok (.getfield 16, 3) := by decide +kernel
theorem dX11_place_17 : decode cX11_place 17 = .ok (.iload_n 1, 1) := by decide +kernel
theorem dX11_place_18 : decode cX11_place 18 = .ok (.invokevirtual 72, 3) := by decide +kernel
theorem dX11_place_21 : decode cX11_place 21 = .ok (.ireturn, 1) := by decide +kernel
theorem dX11_street_0 : decode cX11_street 0 = .ok (.aload_n 0, 1) := by decide +kernel
theorem dX11_street_1 : decode cX11_street 1 = .ok (.getfield 16, 3) := by decide +kernel
theorem dX11_street_4 : decode cX11_street 4 = .ok (.iload_n 1, 1) := by decide +kernel
theorem dX11_street_5 : decode cX11_street 5 = .ok (.invokevirtual 76, 3) := by decide +kernel
theorem dX11_street_8 : decode cX11_street 8 = .ok (.ifCond .eq 29, 3) := by decide +kernel
theorem dX11_street_11 : decode cX11_street 11 = .ok (.aload_n 0, 1) := by decide +kernel
theorem dX11_street_12 : decode cX11_street 12 = .ok (.getfield 16, 3) := by decide +kernel
theorem dX11_street_15 : decode cX11_street 15 = .ok (.iload_n 2, 1) := by decide +kernel
theorem dX11_street_16 : decode cX11_street 16 = .ok (.invokevirtual 76, 3) := by decide +kernel
theorem dX11_street_19 : decode cX11_street 19 = .ok (.ifCond .eq 18, 3) := by decide +kernel
theorem dX11_street_22 : decode cX11_street 22 = .ok (.iload_n 1, 1) := by decide +kernel
theorem dX11_street_23 : decode cX11_street 23 = .ok (.iload_n 2, 1) := by decide +kernel
theorem dX11_street_24 : decode cX11_street 24 = .ok (.if_icmp .eq 13, 3) := by decide +kernel
theorem dX11_street_27 : decode cX11_street 27 = .ok (.iload_n 3, 1) := by decide +kernel
theorem dX11_street_28 : decode cX11_street 28 = .ok (.iconst 1, 1) := by decide +kernel
theorem dX11_street_29 : decode cX11_street 29 = .ok (.bipush 99, 2) := by decide +kernel
theorem dX11_street_31 : decode cX11_street 31 = .ok (.invokestatic 68, 3) := by decide +kernel
theorem dX11_street_34 : decode cX11_street 34 = .ok (.ifCond .ne 5, 3) := by decide +kernel
theorem dX11_street_37 : decode cX11_street 37 = .ok (.iconst (-1), 1) := by decide +kernel
theorem dX11_street_38 : decode cX11_street 38 = .ok (.ireturn, 1) := by decide +kernel
theorem dX11_street_39 : decode cX11_street 39 = .ok (.aload_n 0, 1) := by decide +kernel
theorem dX11_street_40 : decode cX11_street 40 = .ok (.getfield 16, 3) := by decide +kernel
theorem dX11_street_43 : decode cX11_street 43 = .ok (.iload_n 1, 1) := by decide +kernel
theorem dX11_street_44 : decode cX11_street 44 = .ok (.iload_n 2, 1) := by decide +kernel
theorem dX11_street_45 : decode cX11_street 45 = .ok (.iload_n 3, 1) := by decide +kernel
theorem dX11_street_46 : decode cX11_street 46 = .ok (.invokevirtual 80, 3) := by decide +kernel
theorem dX11_street_49 : decode cX11_street 49 = .ok (.ireturn, 1) := by decide +kernel
theorem dX11_way_0 : decode cX11_way 0 = .ok (.aload_n 0, 1) := by decide +kernel
theorem dX11_way_1 : decode cX11_way 1 = .ok (.getfield 16, 3) := by decide +kernel
theorem dX11_way_4 : decode cX11_way 4 = .ok (.iload_n 1, 1) := by decide +kernel
theorem dX11_way_5 : decode cX11_way 5 = .ok (.invokevirtual 76, 3) := by decide +kernel
theorem dX11_way_8 : decode cX11_way 8 = .ok (.ifCond .eq 14, 3) := by decide +kernel
theorem dX11_way_11 : decode cX11_way 11 = .ok (.aload_n 0, 1) := by decide +kernel
theorem dX11_way_12 : decode cX11_way 12 = .ok (.getfield 16, 3) := by decide +kernel
theorem dX11_way_15 : decode cX11_way 15 = .ok (.iload_n 2, 1) := by decide +kernel
theorem dX11_way_16 : decode cX11_way 16 = .ok (.invokevirtual 76, 3) := by decide +kernel
theorem dX11_way_19 : decode cX11_way 19 = .ok (.ifCond .ne 5, 3) := by decide +kernel
theorem dX11_way_22 : decode cX11_way 22 = .ok (.iconst (-1), 1) := by decide +kernel
theorem dX11_way_23 : decode cX11_way 23 = .ok (.ireturn, 1) := by decide +kernel
theorem dX11_way_24 : decode cX11_way 24 = .ok (.aload_n 0, 1) := by decide +kernel
theorem dX11_way_25 : decode cX11_way 25 = .ok (.getfield 16, 3) := by decide +kernel
theorem dX11_way_28 : decode cX11_way 28 = .ok (.iload_n 1, 1) := by decide +kernel
